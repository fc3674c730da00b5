/-! a split is read: the class -/
def whP (s : Nat → Int32) (w day : Nat) (L : List (Nat × Nat)) : Nat := if lsum L = 100 then (if cN s (19 + 48 * w + (cN s (18 + 48 * w) - 1)) < day then 0 else 2) else 1
noncomputable def sSP (s : Nat → Int32) (q : Nat → Int64) (b : Nat → Nat) (n i : Nat) : Er ⊕ (Nat × ((Nat → Int32) × (Nat → Int64))) := eb (sWrk s q b n 2 (i + 1)) fun x1 => eb (sTake b n 15 x1.1) fun x2 => eb (sNum b n 1 9999 x2.1) fun x3 => eb (sShs s q b n x3.1) fun x4 => eb (sSemi b n (whP s x1.2 x3.2 x4.2) x4.1) fun x5 => .inr (x5.1, splU s x1.2 (cN s (18 + 48 * x1.2)) x3.2 x4.2, q)
section I89
variable {sa sv d N o T n i B : Nat} {m : am_M} {b : Nat → Nat} {s : Nat → Int32} {q : Nat → Int64}
theorem whP_lt (s : Nat → Int32) (w day : Nat) (L : List (Nat × Nat)) : whP s w day L < 100 := by
  unfold whP; split
  · split <;> decide
  · decide
theorem x115 (h : CT m N b n T i) (hS : SR m N o s q) (hG : WG B s q) (hk : ¬ Kd b n i = 0) : CW N m (PU N o) (fun _ => none) (fun j z m' => CT m' N b n T j ∧ SR m' N o z.1 z.2) (sSP s q b n i) (am_ca sa sv (d + 5) 115 [.ref (N + 7)] m) := by
  have hC := hG.1.1
  have hW := hG.1.2.1
  have h7 := hG.1.2.2.2.2.2.2.1.b7
  have h6 := isN_lt (wc_nl hC) (by decide)
  obtain ⟨t1, hnw⟩ := (wc_nw hC).c (by decide)
  have hT := h.lt hk
  have e143 : am_ca sa sv (d + 4) 143 [.ref (N + 2)] m = some (.inl none, stp m N (i + 1)) := x143 (sa := sa) (sv := sv) (d := d + 3) h hT
  have h1 : CT (stp m N (i + 1)) N b n T (i + 1) := h.set (by omega)
  have s1 := hS.stp (i + 1)
  have f1 : Fr (PU N o) m (stp m N (i + 1)) := (Fr.refl _ _).si (Or.inl (Or.inl ⟨rfl, by omega, by omega⟩))
  rw [c115, b115_0]
  simp (disch := omega) only [gq_true, gb_true, gb_false, true_and, and_true, eq_self, not_false_eq_true, not_true_eq_false, true_or, or_true, false_or, or_false, false_and, and_false, c0_v, ci_v, cl_v, cf_v, pk_mul, nI_add, nI_clamp, nI_lt0, nI_0le, nI_eq0, nI_lt0r, nI_ltE, nI_leE, nI_eqE, nI_m1, in_t, ba0, ba1, Nat.one_ne_zero, Nat.reduceEqDiff, Nat.reduceLeDiff, Nat.add_eq_zero_iff, xk7 h.1, xr7_0 h.1, xk2 h.1, e143]
  refine CW.tr ?_ f1 (fun _ _ z => z)
  generalize stp m N (i + 1) = m1 at *
  simp (disch := omega) only [gq_true, gb_true, gb_false, true_and, and_true, eq_self, not_false_eq_true, not_true_eq_false, true_or, or_true, false_or, or_false, false_and, and_false, c0_v, ci_v, cl_v, cf_v, pk_mul, nI_add, nI_clamp, nI_lt0, nI_0le, nI_eq0, nI_lt0r, nI_ltE, nI_leE, nI_eqE, nI_m1, in_t, ba0, ba1, Nat.one_ne_zero, Nat.reduceEqDiff, Nat.reduceLeDiff, Nat.add_eq_zero_iff, xk7 h1.1]
  unfold sSP
  have e122 : CO N m1 (fun v => some (.int (nI v))) (sWrk s q b n 2 (i + 1)) (am_ca sa sv (d + 4) 122 [.ref (N + 7), .int (nI 0)] m1) := x122 (sa := sa) (sv := sv) (d := d + 1) h1 s1 hC hW 2 (Or.inr rfl)
  refine CW.ci nI (e122.st h1 s1 (fun x e => by have z := sWrk_i e; have := h1.lt (by omega); omega)) (fun _ => rfl) (fun x1 m2 e2 f2 ⟨h2, s2⟩ => ?_)
  simp (disch := omega) only [gq_true, gb_true, gb_false, true_and, and_true, eq_self, not_false_eq_true, not_true_eq_false, true_or, or_true, false_or, or_false, false_and, and_false, c0_v, ci_v, cl_v, cf_v, pk_mul, nI_add, nI_clamp, nI_lt0, nI_0le, nI_eq0, nI_lt0r, nI_ltE, nI_leE, nI_eqE, nI_m1, in_t, ba0, ba1, Nat.one_ne_zero, Nat.reduceEqDiff, Nat.reduceLeDiff, Nat.add_eq_zero_iff, xk7 h2.1, xr7_0 h2.1, xk2 h2.1]
  refine CW.c0 ((x144 (sa := sa) (sv := sv) (d := d + 2) h2 15 (by decide) (by decide)).st h2 s2 (fun x e => by have z := sTake_i e; have := h2.lt (by omega); omega)) (fun _ => rfl) (fun x2 m3 e3 f3 ⟨h3, s3⟩ => ?_)
  simp (disch := omega) only [gq_true, gb_true, gb_false, true_and, and_true, eq_self, not_false_eq_true, not_true_eq_false, true_or, or_true, false_or, or_false, false_and, and_false, c0_v, ci_v, cl_v, cf_v, pk_mul, nI_add, nI_clamp, nI_lt0, nI_0le, nI_eq0, nI_lt0r, nI_ltE, nI_leE, nI_eqE, nI_m1, in_t, ba0, ba1, Nat.one_ne_zero, Nat.reduceEqDiff, Nat.reduceLeDiff, Nat.add_eq_zero_iff, xk7 h3.1, xr7_0 h3.1, xk2 h3.1]
  refine CW.ci nI ((x145 (sa := sa) (sv := sv) (d := d + 2) h3 1 9999 (by decide) (by decide)).st h3 s3 (fun x e => by have z := sNum_i e; have := h3.lt (by omega); omega)) (fun _ => rfl) (fun x3 m4 e4 f4 ⟨h4, s4⟩ => ?_)
  simp (disch := omega) only [gq_true, gb_true, gb_false, true_and, and_true, eq_self, not_false_eq_true, not_true_eq_false, true_or, or_true, false_or, or_false, false_and, and_false, c0_v, ci_v, cl_v, cf_v, pk_mul, nI_add, nI_clamp, nI_lt0, nI_0le, nI_eq0, nI_lt0r, nI_ltE, nI_leE, nI_eqE, nI_m1, in_t, ba0, ba1, Nat.one_ne_zero, Nat.reduceEqDiff, Nat.reduceLeDiff, Nat.add_eq_zero_iff, xk7 h4.1]
  refine CW.c0 (x123s (sa := sa) (sv := sv) (d := d) h4 s4 hC) (fun _ => rfl) (fun x4 m5 e5 f5 ⟨h5, s5, c5, l5⟩ => ?_)
  obtain ⟨-, -, k1, k1'⟩ := sWrk_i e2
  have k4 := sNum_i e4
  have k5 := no_rm2 hW k1 k1'
  obtain ⟨n18, n18'⟩ := ww_ns hW _ k1
  have t18 := (n18.c (by decide)).1
  have t19 := ((ww_dk hW x1.2 (cN s (18 + 48 * x1.2) - 1) k1 (by omega)).c (by decide))
  have fin : ∀ (w : Nat), w < 100 → CW N m5 (PU N o) (fun _ => none) (fun j z m' => CT m' N b n T j ∧ SR m' N o z.1 z.2) (eb (sSemi b n w x4.1) fun x5 => .inr (x5.1, splU s x1.2 (cN s (18 + 48 * x1.2)) x3.2 x4.2, q)) (am_c0 (am_ca sa sv (d + 4) 148 [.ref (N + 2), .int (nI w)] m5) (fun m17 => gq_ (gk_ m17 (N + 7) = (1, 7) ∧ ¬ gr_ m17 (N + 7) 3 = 0) (gq_ (gk_ m17 (N + 7) = (1, 7) ∧ ¬ gr_ m17 (N + 7) 1 = 0) (gq_ (gk_ m17 (gr_ m17 (N + 7) 3) = (1, 0)) (am_c0 (am_ca sa sv (d + 4) 11 [.ref (gr_ m17 (N + 7) 3), .int (nI x1.2), .int (nI x3.2), .ref (gr_ m17 (N + 7) 1)] m17) (fun m18 => some (.inl none, m18)) am_xg)))) am_xg) := fun w hw => by
    refine CW.c0 ((x148 (sa := sa) (sv := sv) (d := d + 2) h5 w hw).cw (P := PU N o) (fun _ _ z => P8.u z)) (fun _ => rfl) (fun x5 m6 e6 f6 z6 => ?_)
    have k6 := sSemi_i e6
    have h6' : CT (stp m5 N x5.1) N b n T x5.1 := h5.set (by have := h5.lt (by omega); omega)
    have s6 := s5.stp x5.1
    have c6 := c5.stp x5.1
    rw [← z6] at h6' s6 c6
    obtain ⟨m7, g1, g2, g3, g4⟩ := x11 (sa := sa) (sv := sv) (d := d + 1) h6'.1 s6.O s6.V hS.l hS.u h6 h7 (cN s 1) x1.2 (cN s (18 + 48 * x1.2)) x3.2 (by omega) k1 t1 k5 t18 c6
    simp (disch := omega) only [gq_true, gb_true, gb_false, true_and, and_true, eq_self, not_false_eq_true, not_true_eq_false, true_or, or_true, false_or, or_false, false_and, and_false, c0_v, ci_v, cl_v, cf_v, pk_mul, nI_add, nI_clamp, nI_lt0, nI_0le, nI_eq0, nI_lt0r, nI_ltE, nI_leE, nI_eqE, nI_m1, in_t, ba0, ba1, Nat.one_ne_zero, Nat.reduceEqDiff, Nat.reduceLeDiff, Nat.add_eq_zero_iff, xk7 h6'.1, s6.r3, s6.z, ok1 s6.O, xr7_1 h6'.1, g1]
    exact ⟨m7, rfl, g2.mono (fun _ _ z => Or.inr z), h6'.frA g2 hS.l hS.u, s6.upd g2 g3 g4⟩
  simp (disch := omega) only [gq_true, gb_true, gb_false, true_and, and_true, eq_self, not_false_eq_true, not_true_eq_false, true_or, or_true, false_or, or_false, false_and, and_false, c0_v, ci_v, cl_v, cf_v, pk_mul, nI_add, nI_clamp, nI_lt0, nI_0le, nI_eq0, nI_lt0r, nI_ltE, nI_leE, nI_eqE, nI_m1, in_t, ba0, ba1, Nat.one_ne_zero, Nat.reduceEqDiff, Nat.reduceLeDiff, Nat.add_eq_zero_iff, xk7 h5.1, xr7_0 h5.1, x125 (sa := sa) (sv := sv) (d := d + 2) h5.1 c5, xk2 h5.1]
  unfold whP
  by_cases q1 : lsum x4.2 = 100
  · have e23 := x23 (sa := sa) (sv := sv) (d := d + 2) s5.O s5.V hC x1.2 (by omega)
    rw [if_pos k1, t18] at e23
    have e24 := x24 (sa := sa) (sv := sv) (d := d + 2) s5.O s5.V x1.2 (cN s (18 + 48 * x1.2) - 1) (by omega) (by omega)
    rw [t19.1] at e24
    have dm : nI (cN s (18 + 48 * x1.2)) - nI 1 = nI (cN s (18 + 48 * x1.2) - 1) := by
      have := dm_s (cN s (18 + 48 * x1.2) - 1)
      rwa [show cN s (18 + 48 * x1.2) - 1 + 1 = cN s (18 + 48 * x1.2) by omega] at this
    rw [if_pos q1, if_pos q1, gb_pos nI_0]
    have hd := t19.2
    simp (disch := omega) only [gq_true, gb_true, gb_false, true_and, and_true, eq_self, not_false_eq_true, not_true_eq_false, true_or, or_true, false_or, or_false, false_and, and_false, c0_v, ci_v, cl_v, cf_v, pk_mul, nI_add, nI_clamp, nI_lt0, nI_0le, nI_eq0, nI_lt0r, nI_ltE, nI_leE, nI_eqE, nI_m1, in_t, ba0, ba1, Nat.one_ne_zero, Nat.reduceEqDiff, Nat.reduceLeDiff, Nat.add_eq_zero_iff, xk7 h5.1, s5.r3, s5.z, ok1 s5.O, e23, dm, e24, xr7_0 h5.1, xk2 h5.1]
    by_cases q2 : cN s (19 + 48 * x1.2 + (cN s (18 + 48 * x1.2) - 1)) < x3.2
    · rw [if_pos q2, gb_pos q2]; exact fin 0 (by decide)
    · rw [if_neg q2, gb_neg q2]; exact fin 2 (by decide)
  · rw [if_neg q1, if_neg q1, gb_neg (by decide)]
    exact fin 1 (by decide)
theorem sSP_WG (hG : WG B s q) {x : Nat × ((Nat → Int32) × (Nat → Int64))} (h : sSP s q b n i = .inr x) : WG B x.2.1 x.2.2 := by
  obtain ⟨x1, z1, h⟩ := eb_r h
  obtain ⟨x2, z2, h⟩ := eb_r h
  obtain ⟨x3, z3, h⟩ := eb_r h
  obtain ⟨x4, z4, h⟩ := eb_r h
  obtain ⟨x5, z5, h⟩ := eb_r h
  obtain ⟨-, -, k3, k3'⟩ := sWrk_i z1
  have k4 := (sNum_i z3).2.2.2
  have k5 := no_rm2 hG.1.2.1 k3 k3'
  have w0 := (sSemi_i z5).2.1
  unfold whP at w0
  split at w0
  · split at w0
    · rename_i a1 a2
      rw [← Sum.inr.inj h]
      exact hG.split k3 k5 (sShs_LG z4) a1 (by omega) a2
    · cases w0
  · cases w0
end I89
