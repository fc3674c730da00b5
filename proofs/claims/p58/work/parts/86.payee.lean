/-! a payee is read: the class -/
def sPS (s : Nat → Int32) (q : Nat → Int64) (b : Nat → Nat) (n i : Nat) : Er ⊕ (Nat × ((Nat → Int32) × (Nat → Int64))) := eb (sFst b n (cN s 0) 10 i) fun x1 => eb (sNew s q b n x1.1) fun x2 => if Kd b n x2.1 = 8 then eb (sNum b n 0 99999 (x2.1 + 1)) fun x3 => eb (sSemi b n 0 x3.1) fun x4 => .inr (x4.1, pyS s x3.2, pyQ s q x2.2) else eb (sSemi b n 0 x2.1) fun x4 => .inr (x4.1, pyS s 0, pyQ s q x2.2)
section I86
variable {sa sv d N o T n i B : Nat} {m : am_M} {b : Nat → Nat} {s : Nat → Int32} {q : Nat → Int64}
theorem SR.r2 (h : SR m N o s q) : gr_ m (N + 7) 2 = o := h.1
theorem SR.r3 (h : SR m N o s q) : gr_ m (N + 7) 3 = o + 1 := h.2.1
theorem SR.O (h : SR m N o s q) : OS m o := h.2.2.1
theorem SR.V (h : SR m N o s q) : OV m o s q := h.2.2.2.1
theorem SR.l (h : SR m N o s q) : N + 27 ≤ o := h.2.2.2.2.1
theorem SR.u (h : SR m N o s q) : o + 27 ≤ N + 243 := h.2.2.2.2.2
theorem SR.z (h : SR m N o s q) : (o + 1 = 0) = False := eq_false (by omega)
theorem SR.z0 (h : SR m N o s q) : (o = 0) = False := eq_false (by have := h.l; omega)
theorem CO.st {α : Type} {g : α → Option Value} {z : Er ⊕ (Nat × α)} {r : Option am_R} (h : CO N m g z r) (hT : CT m N b n T i) (hS : SR m N o s q) (hz : ∀ x, z = .inr x → x.1 ≤ T) : CW N m (PU N o) g (fun j _ m' => CT m' N b n T j ∧ SR m' N o s q) z r := by
  have h1 := h.cw (P := PU N o) (fun _ _ z => P8.u z)
  cases z with
  | inl e => exact h1
  | inr x =>
    obtain ⟨m', g1, g2, rfl⟩ := h1
    exact ⟨_, g1, g2, hT.set (hz x rfl), hS.stp _⟩
theorem SR.nw (h : SR m N o s q) (hC : WC s) : gi_ m (o + 1) 1 = nI (cN s 1) := (ov_nw h.V).trans ((wc_nw hC).c (by decide)).1
theorem SR.np (h : SR m N o s q) (hC : WC s) : gi_ m (o + 1) 0 = nI (cN s 0) := (ov_np h.V).trans ((wc_np hC).c (by decide)).1
theorem x111 (h : CT m N b n T i) (hS : SR m N o s q) (hG : WG B s q) (hk : ¬ Kd b n i = 0) : CW N m (PU N o) (fun _ => none) (fun j z m' => CT m' N b n T j ∧ SR m' N o z.1 z.2) (sPS s q b n i) (am_ca sa sv (d + 4) 111 [.ref (N + 7)] m) := by
  have hC := hG.1.1
  have hKk := hG.1.2.2.2.2.2.2.1
  have hnp := isN_lt (wc_np hC) (by decide)
  rw [c111, b111_0]
  simp (disch := omega) only [gq_true, gb_true, gb_false, true_and, and_true, eq_self, not_false_eq_true, not_true_eq_false, true_or, or_true, false_or, or_false, false_and, and_false, c0_v, ci_v, cl_v, cf_v, pk_mul, nI_add, nI_clamp, nI_lt0, nI_0le, nI_eq0, nI_lt0r, nI_ltE, nI_leE, nI_eqE, nI_m1, in_t, ba0, ba1, Nat.one_ne_zero, Nat.reduceEqDiff, Nat.reduceLeDiff, Nat.add_eq_zero_iff, xk7 h.1, hS.r3, hS.z, ok1 hS.O, hS.np hC]
  unfold sPS
  refine CW.c0 ((x118 (sa := sa) (sv := sv) (d := d + 1) h hk (cN s 0) 10 (by omega) (by decide)).st h hS (fun x e => by have := (sFst_i e).2; have := h.lt hk; omega)) (fun _ => rfl) (fun x1 m1 e1 f1 ⟨h1, s1⟩ => ?_)
  simp (disch := omega) only [gq_true, gb_true, gb_false, true_and, and_true, eq_self, not_false_eq_true, not_true_eq_false, true_or, or_true, false_or, or_false, false_and, and_false, c0_v, ci_v, cl_v, cf_v, pk_mul, nI_add, nI_clamp, nI_lt0, nI_0le, nI_eq0, nI_lt0r, nI_ltE, nI_leE, nI_eqE, nI_m1, in_t, ba0, ba1, Nat.one_ne_zero, Nat.reduceEqDiff, Nat.reduceLeDiff, Nat.add_eq_zero_iff, xk7 h1.1]
  refine CW.cl (fun x => x) ((x119 (sa := sa) (sv := sv) (d := d) h1 s1 hC).st h1 s1 (fun x e => by have z := sNew_i e; have := h1.lt (by omega); omega)) (fun _ => rfl) (fun x2 m2 e2 f2 ⟨h2, s2⟩ => ?_)
  have hK := Kd_lt b n x2.1
  simp (disch := omega) only [gq_true, gb_true, gb_false, true_and, and_true, eq_self, not_false_eq_true, not_true_eq_false, true_or, or_true, false_or, or_false, false_and, and_false, c0_v, ci_v, cl_v, cf_v, pk_mul, nI_add, nI_clamp, nI_lt0, nI_0le, nI_eq0, nI_lt0r, nI_ltE, nI_leE, nI_eqE, nI_m1, in_t, ba0, ba1, Nat.one_ne_zero, Nat.reduceEqDiff, Nat.reduceLeDiff, Nat.add_eq_zero_iff, xk7 h2.1, xr7_0 h2.1, xk2 h2.1, x142 (sa := sa) (sv := sv) (d := d + 2) h2]
  have fin : ∀ (m5 : am_M) (j l : Nat), CT m5 N b n T j → SR m5 N o s q → CW N m5 (PU N o) (fun _ => none) (fun j z m' => CT m' N b n T j ∧ SR m' N o z.1 z.2) (.inr (j, pyS s l, pyQ s q x2.2)) (am_c0 (am_ca sa sv (d + 3) 8 [.ref (o + 1), .long x2.2, .int (nI l)] m5) (fun m12 => some (.inl none, m12)) am_xg) := fun m5 j l h5 s5 => by
    obtain ⟨m6, g1, g2, g3, g4⟩ := x8 (sa := sa) (sv := sv) (d := d + 2) s5.O s5.V hC hKk x2.2 l (by have := (sFst_i e1).1; omega)
    rw [g1, c0_v]
    exact ⟨m6, rfl, g2.mono (fun _ _ z => Or.inr z), h5.frA g2 hS.l hS.u, s5.upd g2 g3 g4⟩
  by_cases e : Kd b n x2.1 = 8
  · rw [if_pos e, gb_pos e]
    have h3 := h2.skip (h2.lt (by omega))
    have s3 := s2.stp (x2.1 + 1)
    have f3 : Fr (PU N o) m2 (stp m2 N (x2.1 + 1)) := (Fr.refl _ _).si (Or.inl (Or.inl ⟨rfl, by omega, by omega⟩))
    have e143 : am_ca sa sv (d + 3) 143 [.ref (N + 2)] m2 = some (.inl none, stp m2 N (x2.1 + 1)) := x143 (sa := sa) (sv := sv) (d := d + 2) h2 (h2.lt (by omega))
    rw [e143, c0_v]
    refine CW.tr ?_ f3 (fun _ _ z => z)
    have h3' : CT (stp m2 N (x2.1 + 1)) N b n T (x2.1 + 1) := h3
    generalize stp m2 N (x2.1 + 1) = m3 at *
    simp (disch := omega) only [gq_true, gb_true, gb_false, true_and, and_true, eq_self, not_false_eq_true, not_true_eq_false, true_or, or_true, false_or, or_false, false_and, and_false, c0_v, ci_v, cl_v, cf_v, pk_mul, nI_add, nI_clamp, nI_lt0, nI_0le, nI_eq0, nI_lt0r, nI_ltE, nI_leE, nI_eqE, nI_m1, in_t, ba0, ba1, Nat.one_ne_zero, Nat.reduceEqDiff, Nat.reduceLeDiff, Nat.add_eq_zero_iff, xk7 h3'.1, xr7_0 h3'.1, xk2 h3'.1]
    refine CW.ci nI ((x145 (sa := sa) (sv := sv) (d := d + 1) h3' 0 99999 (by decide) (by decide)).st h3' s3 (fun x e => by have z := sNum_i e; have := h3'.lt (by omega); omega)) (fun _ => rfl) (fun x4 m4 e4 f4 ⟨h4, s4⟩ => ?_)
    simp (disch := omega) only [gq_true, gb_true, gb_false, true_and, and_true, eq_self, not_false_eq_true, not_true_eq_false, true_or, or_true, false_or, or_false, false_and, and_false, c0_v, ci_v, cl_v, cf_v, pk_mul, nI_add, nI_clamp, nI_lt0, nI_0le, nI_eq0, nI_lt0r, nI_ltE, nI_leE, nI_eqE, nI_m1, in_t, ba0, ba1, Nat.one_ne_zero, Nat.reduceEqDiff, Nat.reduceLeDiff, Nat.add_eq_zero_iff, xk7 h4.1, xr7_0 h4.1, xk2 h4.1]
    refine CW.c0 ((x148 (sa := sa) (sv := sv) (d := d + 1) h4 0 (by decide)).st h4 s4 (fun x e => by have z := sSemi_i e; have := h4.lt (by omega); omega)) (fun _ => rfl) (fun x5 m5 e5 f5 ⟨h5, s5⟩ => ?_)
    simp (disch := omega) only [gq_true, gb_true, gb_false, true_and, and_true, eq_self, not_false_eq_true, not_true_eq_false, true_or, or_true, false_or, or_false, false_and, and_false, c0_v, ci_v, cl_v, cf_v, pk_mul, nI_add, nI_clamp, nI_lt0, nI_0le, nI_eq0, nI_lt0r, nI_ltE, nI_leE, nI_eqE, nI_m1, in_t, ba0, ba1, Nat.one_ne_zero, Nat.reduceEqDiff, Nat.reduceLeDiff, Nat.add_eq_zero_iff, xk7 h5.1, s5.r3, s5.z, ok1 s5.O]
    exact fin _ _ _ h5 s5
  · rw [if_neg e, gb_neg e]
    refine CW.c0 ((x148 (sa := sa) (sv := sv) (d := d + 1) h2 0 (by decide)).st h2 s2 (fun x e => by have z := sSemi_i e; have := h2.lt (by omega); omega)) (fun _ => rfl) (fun x5 m5 e5 f5 ⟨h5, s5⟩ => ?_)
    simp (disch := omega) only [gq_true, gb_true, gb_false, true_and, and_true, eq_self, not_false_eq_true, not_true_eq_false, true_or, or_true, false_or, or_false, false_and, and_false, c0_v, ci_v, cl_v, cf_v, pk_mul, nI_add, nI_clamp, nI_lt0, nI_0le, nI_eq0, nI_lt0r, nI_ltE, nI_leE, nI_eqE, nI_m1, in_t, ba0, ba1, Nat.one_ne_zero, Nat.reduceEqDiff, Nat.reduceLeDiff, Nat.add_eq_zero_iff, xk7 h5.1, s5.r3, s5.z, ok1 s5.O]
    exact fin _ _ _ h5 s5
theorem sPS_WG (hG : WG B s q) {x : Nat × ((Nat → Int32) × (Nat → Int64))} (h : sPS s q b n i = .inr x) : WG B x.2.1 x.2.2 ∧ i < x.1 := by
  have hnp := isN_lt (wc_np hG.1.1) (by decide)
  unfold sPS at h
  cases z1 : sFst b n (cN s 0) 10 i with
  | inl e => rw [z1] at h; cases h
  | inr x1 =>
    rw [z1] at h
    have k1 := sFst_i z1
    change eb (sNew s q b n x1.1) _ = _ at h
    cases z2 : sNew s q b n x1.1 with
    | inl e => rw [z2] at h; cases h
    | inr x2 =>
      rw [z2] at h
      obtain ⟨k2, k3, k4, k5, k6⟩ := sNew_i z2
      change (if Kd b n x2.1 = 8 then _ else _) = _ at h
      have fin : ∀ l, l < 100000 → WG B (pyS s l) (pyQ s q x2.2) := fun l hl => hG.payee (by omega) hl (by rw [k4]; exact Vl_gd k2) (pnm_new k5)
      split at h
      · cases z3 : sNum b n 0 99999 (x2.1 + 1) with
        | inl e => rw [z3] at h; cases h
        | inr x3 =>
          rw [z3] at h
          obtain ⟨k7, k8, k9, k10⟩ := sNum_i z3
          change eb (sSemi b n 0 x3.1) _ = _ at h
          cases z4 : sSemi b n 0 x3.1 with
          | inl e => rw [z4] at h; cases h
          | inr x4 =>
            rw [z4] at h
            rw [← Sum.inr.inj h]
            have k11 := sSemi_i z4
            exact ⟨fin _ (by omega), by show i < x4.1; omega⟩
      · cases z4 : sSemi b n 0 x2.1 with
        | inl e => rw [z4] at h; cases h
        | inr x4 =>
          rw [z4] at h
          rw [← Sum.inr.inj h]
          have k11 := sSemi_i z4
          exact ⟨fin _ (by decide), by show i < x4.1; omega⟩
end I86
