/-! a work, a cover are read: the class -/
def sWK (s : Nat → Int32) (q : Nat → Int64) (b : Nat → Nat) (n i : Nat) : Er ⊕ (Nat × ((Nat → Int32) × (Nat → Int64))) := eb (sFst b n (cN s 1) 12 i) fun x1 => eb (sNew s q b n x1.1) fun x2 => eb (sShs s q b n x2.1) fun x3 => eb (sSemi b n (if lsum x3.2 = 100 then 0 else 1) x3.1) fun x4 => .inr (x4.1, splU (wk1 s) (cN s 1) 0 0 x3.2, wkQ s q x2.2)
noncomputable def sCV (s : Nat → Int32) (q : Nat → Int64) (b : Nat → Nat) (n i : Nat) : Er ⊕ (Nat × ((Nat → Int32) × (Nat → Int64))) := eb (sFst b n (cN s 1) 12 i) fun x1 => eb (sNew s q b n x1.1) fun x2 => eb (sTake b n 11 x2.1) fun x5 => eb (sWrk s q b n 0 x5.1) fun x6 => eb (sNum b n 1 90 x6.1) fun x7 => eb (sShs s q b n x7.1) fun x3 => eb (sSemi b n (if lsum x3.2 = 100 then 0 else 1) x3.1) fun x4 => .inr (x4.1, srcU (splU (wk1 s) (cN s 1) 0 0 x3.2) (cN s 1) 0 x6.2 x7.2, wkQ s q x2.2)
section I88
variable {sa sv d N o T n i B : Nat} {m : am_M} {b : Nat → Nat} {s : Nat → Int32} {q : Nat → Int64} {l : List (Nat × Nat)}
def LPs (s : Nat → Int32) (L : List (Nat × Nat)) : Prop := L.length ≤ 4 ∧ (∀ (j : Nat) (x : Nat × Nat), L[j]? = some x → x.1 < cN s 0 ∧ 0 < x.2 ∧ x.2 ≤ 100) ∧ (∀ (i j : Nat) (x y : Nat × Nat), i < j → L[i]? = some x → L[j]? = some y → x.1 ≠ y.1)
theorem sShare_LP (h : LPs s l) {x : Nat × List (Nat × Nat)} (hx : sShare s q b n l i = .inr x) : LPs s x.2 := by
  obtain ⟨h1, h2, h3⟩ := h
  have h4 := (sShare_len hx).2
  unfold sShare at hx
  split at hx
  · split at hx
    · rename_i hp
      split at hx
      · cases hx
      · rename_i ha
        cases hn : sNum b n 1 100 (i + 1) with
        | inl e => rw [hn] at hx; cases hx
        | inr y =>
          rw [hn] at hx
          have h5 := (Sum.inr.inj hx).symm
          obtain ⟨-, -, k1, k2⟩ := sNum_i hn
          generalize pnm_ s q (Vl b n i) = p at *
          have gt : ∀ (j : Nat) (z : Nat × Nat), (l ++ [(p, y.2)])[j]? = some z → (l[j]? = some z ∧ j < l.length) ∨ (j = l.length ∧ z = (p, y.2)) := fun j z hz => by
            by_cases e : j < l.length
            · rw [List.getElem?_append_left e] at hz; exact Or.inl ⟨hz, e⟩
            · rw [List.getElem?_append_right (by omega)] at hz
              by_cases e2 : j = l.length
              · subst e2
                rw [Nat.sub_self] at hz
                exact Or.inr ⟨rfl, (Option.some.inj hz).symm⟩
              · obtain ⟨t, ht⟩ : ∃ t, j - l.length = t + 1 := ⟨j - l.length - 1, by omega⟩
                rw [ht] at hz; cases hz
          have no : ∀ (j : Nat) (z : Nat × Nat), l[j]? = some z → z.1 ≠ p := fun j z hz e => ha ((any_idx _ _).mpr ⟨j, z, hz, decide_eq_true e⟩)
          rw [h5]
          refine ⟨by show (l ++ [_]).length ≤ 4; rw [List.length_append]; show l.length + 1 ≤ 4; omega, fun j z hz => ?_, fun j k z w hjk hz hw => ?_⟩
          · rcases gt j z hz with ⟨g, -⟩ | ⟨-, rfl⟩
            · exact h2 j z g
            · exact ⟨hp, k1, k2⟩
          · rcases gt j z hz with ⟨g, g0⟩ | ⟨g, rfl⟩
            · rcases gt k w hw with ⟨g2, -⟩ | ⟨-, rfl⟩
              · exact h3 j k z w hjk g g2
              · exact no j z g
            · rcases gt k w hw with ⟨-, g2⟩ | ⟨g2, -⟩ <;> omega
    · cases hx
  · cases hx
theorem sShl_LP : ∀ (f : Nat) (l : List (Nat × Nat)) (i : Nat) {x : Nat × List (Nat × Nat)}, LPs s l → sShl s q b n f l i = .inr x → LPs s x.2 ∧ l.length ≤ x.2.length := by
  intro f
  induction f with
  | zero => intro l i x h hx; rw [← Sum.inr.inj hx]; exact ⟨h, Nat.le_refl _⟩
  | succ f ih =>
    intro l i x h hx
    cases z : sShare s q b n l i with
    | inl e => unfold sShl at hx; rw [z] at hx; cases hx
    | inr y =>
      unfold sShl at hx
      rw [z] at hx
      have h1 := sShare_LP h z
      have h2 := (sShare_len z).1
      change (if Kd b n y.1 = 2 then _ else _) = _ at hx
      split at hx
      · have := ih y.2 y.1 h1 hx
        exact ⟨this.1, by omega⟩
      · rw [← Sum.inr.inj hx]; exact ⟨h1, by omega⟩
theorem sShs_LG {x : Nat × List (Nat × Nat)} (hx : sShs s q b n i = .inr x) : LG s x.2 := by
  unfold sShs at hx
  cases z : sTake b n 22 i with
  | inl e => rw [z] at hx; cases hx
  | inr y =>
    rw [z] at hx
    change sShl s q b n 5 [] y.1 = _ at hx
    have h0 : LPs s [] := ⟨by decide, (fun j x h => by cases h), (fun i j x y h h2 => by cases h2)⟩
    have h1 := (sShl_LP _ _ _ h0 hx).1
    have hl : 0 < x.2.length := by
      cases z2 : sShare s q b n [] y.1 with
      | inl e => unfold sShl at hx; rw [z2] at hx; cases hx
      | inr w =>
        unfold sShl at hx
        rw [z2] at hx
        have h2 := (sShare_len z2).1
        change (if Kd b n w.1 = 2 then _ else _) = _ at hx
        split at hx
        · have := (sShl_LP _ _ _ (sShare_LP h0 z2) hx).2
          omega
        · rw [← Sum.inr.inj hx]; omega
    exact ⟨hl, h1.1, h1.2.1, h1.2.2⟩
theorem x123s (h : CT m N b n T i) (hS : SR m N o s q) (hC : WC s) : CW N m (PU N o) (fun _ => none) (fun j l' m' => CT m' N b n T j ∧ SR m' N o s q ∧ CH m' N l' ∧ i < j) (sShs s q b n i) (am_ca sa sv (d + 4) 123 [.ref (N + 7)] m) := by
  have h1 := x123 (sa := sa) (sv := sv) (d := d) h hS hC
  cases z : sShs s q b n i with
  | inl e =>
    rw [z] at h1
    obtain ⟨m', g1, g2, g3⟩ := h1
    exact ⟨m', g1, g2.mono (fun _ _ z => Or.inl z), g3⟩
  | inr x =>
    rw [z] at h1
    obtain ⟨m', g1, g2, g3, g4, g5⟩ := h1
    exact ⟨m', g1, g2.mono (fun _ _ z => Or.inl z), g3, hS.frS g2 (fun _ _ z => z), g4, g5⟩
theorem x112 (h : CT m N b n T i) (hS : SR m N o s q) (hG : WG B s q) (hk : ¬ Kd b n i = 0) : CW N m (PU N o) (fun _ => none) (fun j z m' => CT m' N b n T j ∧ SR m' N o z.1 z.2) (sWK s q b n i) (am_ca sa sv (d + 5) 112 [.ref (N + 7)] m) := by
  have hC := hG.1.1
  have h7 := hG.1.2.2.2.2.2.2.1.b7
  have h6 := isN_lt (wc_nl hC) (by decide)
  obtain ⟨t1, hnw⟩ := (wc_nw hC).c (by decide)
  have hz := ww_z hG.1.2.1
  rw [c112, b112_0]
  simp (disch := omega) only [gq_true, gb_true, gb_false, true_and, and_true, eq_self, not_false_eq_true, not_true_eq_false, true_or, or_true, false_or, or_false, false_and, and_false, c0_v, ci_v, cl_v, cf_v, pk_mul, nI_add, nI_clamp, nI_lt0, nI_0le, nI_eq0, nI_lt0r, nI_ltE, nI_leE, nI_eqE, nI_m1, in_t, ba0, ba1, Nat.one_ne_zero, Nat.reduceEqDiff, Nat.reduceLeDiff, Nat.add_eq_zero_iff, xk7 h.1, hS.r3, hS.z, ok1 hS.O, hS.nw hC]
  unfold sWK
  refine CW.c0 ((x118 (sa := sa) (sv := sv) (d := d + 2) h hk (cN s 1) 12 (by omega) (by decide)).st h hS (fun x e => by have := (sFst_i e).2; have := h.lt hk; omega)) (fun _ => rfl) (fun x1 m1 e1 f1 ⟨h1, s1⟩ => ?_)
  simp (disch := omega) only [gq_true, gb_true, gb_false, true_and, and_true, eq_self, not_false_eq_true, not_true_eq_false, true_or, or_true, false_or, or_false, false_and, and_false, c0_v, ci_v, cl_v, cf_v, pk_mul, nI_add, nI_clamp, nI_lt0, nI_0le, nI_eq0, nI_lt0r, nI_ltE, nI_leE, nI_eqE, nI_m1, in_t, ba0, ba1, Nat.one_ne_zero, Nat.reduceEqDiff, Nat.reduceLeDiff, Nat.add_eq_zero_iff, xk7 h1.1]
  refine CW.cl (fun x => x) ((x119 (sa := sa) (sv := sv) (d := d + 1) h1 s1 hC).st h1 s1 (fun x e => by have z := sNew_i e; have := h1.lt (by omega); omega)) (fun _ => rfl) (fun x2 m2 e2 f2 ⟨h2, s2⟩ => ?_)
  simp (disch := omega) only [gq_true, gb_true, gb_false, true_and, and_true, eq_self, not_false_eq_true, not_true_eq_false, true_or, or_true, false_or, or_false, false_and, and_false, c0_v, ci_v, cl_v, cf_v, pk_mul, nI_add, nI_clamp, nI_lt0, nI_0le, nI_eq0, nI_lt0r, nI_ltE, nI_leE, nI_eqE, nI_m1, in_t, ba0, ba1, Nat.one_ne_zero, Nat.reduceEqDiff, Nat.reduceLeDiff, Nat.add_eq_zero_iff, xk7 h2.1]
  refine CW.c0 (x123s (sa := sa) (sv := sv) (d := d) h2 s2 hC) (fun _ => rfl) (fun x3 m3 e3 f3 ⟨h3, s3, c3, l3⟩ => ?_)
  simp (disch := omega) only [gq_true, gb_true, gb_false, true_and, and_true, eq_self, not_false_eq_true, not_true_eq_false, true_or, or_true, false_or, or_false, false_and, and_false, c0_v, ci_v, cl_v, cf_v, pk_mul, nI_add, nI_clamp, nI_lt0, nI_0le, nI_eq0, nI_lt0r, nI_ltE, nI_leE, nI_eqE, nI_m1, in_t, ba0, ba1, Nat.one_ne_zero, Nat.reduceEqDiff, Nat.reduceLeDiff, Nat.add_eq_zero_iff, xk7 h3.1, xr7_0 h3.1, x125 (sa := sa) (sv := sv) (d := d + 2) h3.1 c3, xk2 h3.1]
  refine CW.c0 ((x148 (sa := sa) (sv := sv) (d := d + 2) h3 (if lsum x3.2 = 100 then 0 else 1) (by split <;> decide)).cw (P := PU N o) (fun _ _ z => P8.u z)) (fun _ => rfl) (fun x4 m4 e4 f4 z4 => ?_)
  have k4 := sSemi_i e4
  have h4 : CT (stp m3 N x4.1) N b n T x4.1 := h3.set (by have := h3.lt (by omega); omega)
  have s4 := s3.stp x4.1
  have c4 := c3.stp x4.1
  rw [← z4] at h4 s4 c4
  simp (disch := omega) only [gq_true, gb_true, gb_false, true_and, and_true, eq_self, not_false_eq_true, not_true_eq_false, true_or, or_true, false_or, or_false, false_and, and_false, c0_v, ci_v, cl_v, cf_v, pk_mul, nI_add, nI_clamp, nI_lt0, nI_0le, nI_eq0, nI_lt0r, nI_ltE, nI_leE, nI_eqE, nI_m1, in_t, ba0, ba1, Nat.one_ne_zero, Nat.reduceEqDiff, Nat.reduceLeDiff, Nat.add_eq_zero_iff, xk7 h4.1, s4.r3, s4.z, ok1 s4.O, xr7_1 h4.1]
  have hw := (sFst_i e1).1
  obtain ⟨m5, g1, g2, g3, g4⟩ := x9 (sa := sa) (sv := sv) (d := d) h4.1 s4.O s4.V hS.l hS.u h6 h7 x2.2 (by omega) t1 (hz _ (Nat.le_refl _) (by omega)).1 c4
  rw [g1, c0_v]
  exact ⟨m5, rfl, g2.mono (fun _ _ z => Or.inr z), h4.frA g2 hS.l hS.u, s4.upd g2 g3 g4⟩
theorem x113 (h : CT m N b n T i) (hS : SR m N o s q) (hG : WG B s q) (hk : ¬ Kd b n i = 0) : CW N m (PU N o) (fun _ => none) (fun j z m' => CT m' N b n T j ∧ SR m' N o z.1 z.2) (sCV s q b n i) (am_ca sa sv (d + 5) 113 [.ref (N + 7)] m) := by
  have hC := hG.1.1
  have h7 := hG.1.2.2.2.2.2.2.1.b7
  have h6 := isN_lt (wc_nl hC) (by decide)
  obtain ⟨t1, hnw⟩ := (wc_nw hC).c (by decide)
  have hz := ww_z hG.1.2.1
  rw [c113, b113_0]
  simp (disch := omega) only [gq_true, gb_true, gb_false, true_and, and_true, eq_self, not_false_eq_true, not_true_eq_false, true_or, or_true, false_or, or_false, false_and, and_false, c0_v, ci_v, cl_v, cf_v, pk_mul, nI_add, nI_clamp, nI_lt0, nI_0le, nI_eq0, nI_lt0r, nI_ltE, nI_leE, nI_eqE, nI_m1, in_t, ba0, ba1, Nat.one_ne_zero, Nat.reduceEqDiff, Nat.reduceLeDiff, Nat.add_eq_zero_iff, xk7 h.1, hS.r3, hS.z, ok1 hS.O, hS.nw hC]
  unfold sCV
  refine CW.c0 ((x118 (sa := sa) (sv := sv) (d := d + 2) h hk (cN s 1) 12 (by omega) (by decide)).st h hS (fun x e => by have := (sFst_i e).2; have := h.lt hk; omega)) (fun _ => rfl) (fun x1 m1 e1 f1 ⟨h1, s1⟩ => ?_)
  simp (disch := omega) only [gq_true, gb_true, gb_false, true_and, and_true, eq_self, not_false_eq_true, not_true_eq_false, true_or, or_true, false_or, or_false, false_and, and_false, c0_v, ci_v, cl_v, cf_v, pk_mul, nI_add, nI_clamp, nI_lt0, nI_0le, nI_eq0, nI_lt0r, nI_ltE, nI_leE, nI_eqE, nI_m1, in_t, ba0, ba1, Nat.one_ne_zero, Nat.reduceEqDiff, Nat.reduceLeDiff, Nat.add_eq_zero_iff, xk7 h1.1]
  refine CW.cl (fun x => x) ((x119 (sa := sa) (sv := sv) (d := d + 1) h1 s1 hC).st h1 s1 (fun x e => by have z := sNew_i e; have := h1.lt (by omega); omega)) (fun _ => rfl) (fun x2 m2 e2 f2 ⟨h2, s2⟩ => ?_)
  simp (disch := omega) only [gq_true, gb_true, gb_false, true_and, and_true, eq_self, not_false_eq_true, not_true_eq_false, true_or, or_true, false_or, or_false, false_and, and_false, c0_v, ci_v, cl_v, cf_v, pk_mul, nI_add, nI_clamp, nI_lt0, nI_0le, nI_eq0, nI_lt0r, nI_ltE, nI_leE, nI_eqE, nI_m1, in_t, ba0, ba1, Nat.one_ne_zero, Nat.reduceEqDiff, Nat.reduceLeDiff, Nat.add_eq_zero_iff, xk7 h2.1, xr7_0 h2.1, xk2 h2.1]
  refine CW.c0 ((x144 (sa := sa) (sv := sv) (d := d + 2) h2 11 (by decide) (by decide)).st h2 s2 (fun x e => by have z := sTake_i e; have := h2.lt (by omega); omega)) (fun _ => rfl) (fun x5 m5 e5 f5 ⟨h5, s5⟩ => ?_)
  simp (disch := omega) only [gq_true, gb_true, gb_false, true_and, and_true, eq_self, not_false_eq_true, not_true_eq_false, true_or, or_true, false_or, or_false, false_and, and_false, c0_v, ci_v, cl_v, cf_v, pk_mul, nI_add, nI_clamp, nI_lt0, nI_0le, nI_eq0, nI_lt0r, nI_ltE, nI_leE, nI_eqE, nI_m1, in_t, ba0, ba1, Nat.one_ne_zero, Nat.reduceEqDiff, Nat.reduceLeDiff, Nat.add_eq_zero_iff, xk7 h5.1]
  refine CW.ci nI ((x121 (sa := sa) (sv := sv) (d := d + 1) h5 s5 hC).st h5 s5 (fun x e => by have z := sWrk_i e; have := h5.lt (by omega); omega)) (fun _ => rfl) (fun x6 m6 e6 f6 ⟨h8, s6⟩ => ?_)
  simp (disch := omega) only [gq_true, gb_true, gb_false, true_and, and_true, eq_self, not_false_eq_true, not_true_eq_false, true_or, or_true, false_or, or_false, false_and, and_false, c0_v, ci_v, cl_v, cf_v, pk_mul, nI_add, nI_clamp, nI_lt0, nI_0le, nI_eq0, nI_lt0r, nI_ltE, nI_leE, nI_eqE, nI_m1, in_t, ba0, ba1, Nat.one_ne_zero, Nat.reduceEqDiff, Nat.reduceLeDiff, Nat.add_eq_zero_iff, xk7 h8.1, xr7_0 h8.1, xk2 h8.1]
  refine CW.ci nI ((x145 (sa := sa) (sv := sv) (d := d + 2) h8 1 90 (by decide) (by decide)).st h8 s6 (fun x e => by have z := sNum_i e; have := h8.lt (by omega); omega)) (fun _ => rfl) (fun x7 m7 e7 f7 ⟨h9, s7⟩ => ?_)
  simp (disch := omega) only [gq_true, gb_true, gb_false, true_and, and_true, eq_self, not_false_eq_true, not_true_eq_false, true_or, or_true, false_or, or_false, false_and, and_false, c0_v, ci_v, cl_v, cf_v, pk_mul, nI_add, nI_clamp, nI_lt0, nI_0le, nI_eq0, nI_lt0r, nI_ltE, nI_leE, nI_eqE, nI_m1, in_t, ba0, ba1, Nat.one_ne_zero, Nat.reduceEqDiff, Nat.reduceLeDiff, Nat.add_eq_zero_iff, xk7 h9.1]
  refine CW.c0 (x123s (sa := sa) (sv := sv) (d := d) h9 s7 hC) (fun _ => rfl) (fun x3 m3 e3 f3 ⟨h3, s3, c3, l3⟩ => ?_)
  simp (disch := omega) only [gq_true, gb_true, gb_false, true_and, and_true, eq_self, not_false_eq_true, not_true_eq_false, true_or, or_true, false_or, or_false, false_and, and_false, c0_v, ci_v, cl_v, cf_v, pk_mul, nI_add, nI_clamp, nI_lt0, nI_0le, nI_eq0, nI_lt0r, nI_ltE, nI_leE, nI_eqE, nI_m1, in_t, ba0, ba1, Nat.one_ne_zero, Nat.reduceEqDiff, Nat.reduceLeDiff, Nat.add_eq_zero_iff, xk7 h3.1, xr7_0 h3.1, x125 (sa := sa) (sv := sv) (d := d + 2) h3.1 c3, xk2 h3.1]
  refine CW.c0 ((x148 (sa := sa) (sv := sv) (d := d + 2) h3 (if lsum x3.2 = 100 then 0 else 1) (by split <;> decide)).cw (P := PU N o) (fun _ _ z => P8.u z)) (fun _ => rfl) (fun x4 m4 e4 f4 z4 => ?_)
  have k4 := sSemi_i e4
  have h4 : CT (stp m3 N x4.1) N b n T x4.1 := h3.set (by have := h3.lt (by omega); omega)
  have s4 := s3.stp x4.1
  have c4 := c3.stp x4.1
  rw [← z4] at h4 s4 c4
  simp (disch := omega) only [gq_true, gb_true, gb_false, true_and, and_true, eq_self, not_false_eq_true, not_true_eq_false, true_or, or_true, false_or, or_false, false_and, and_false, c0_v, ci_v, cl_v, cf_v, pk_mul, nI_add, nI_clamp, nI_lt0, nI_0le, nI_eq0, nI_lt0r, nI_ltE, nI_leE, nI_eqE, nI_m1, in_t, ba0, ba1, Nat.one_ne_zero, Nat.reduceEqDiff, Nat.reduceLeDiff, Nat.add_eq_zero_iff, xk7 h4.1, s4.r3, s4.z, ok1 s4.O, xr7_1 h4.1]
  have hw := (sFst_i e1).1
  obtain ⟨m8, g1, g2, g3, g4⟩ := x9 (sa := sa) (sv := sv) (d := d) h4.1 s4.O s4.V hS.l hS.u h6 h7 x2.2 (by omega) t1 (hz _ (Nat.le_refl _) (by omega)).1 c4
  have h10 := h4.frA g2 hS.l hS.u
  have s8 := s4.upd g2 g3 g4
  have l4 := c4.2.1
  have u1 : splU (wk1 s) (cN s 1) 0 0 x3.2 1 = nI (cN s 1 + 1) := by
    unfold splU; rw [if_neg (by omega), if_neg (by omega), if_neg (by omega), if_neg (by omega), if_neg (by omega)]; exact if_pos rfl
  have u2 : splU (wk1 s) (cN s 1) 0 0 x3.2 (59 + 48 * cN s 1) = nI 0 := by
    unfold splU; rw [if_neg (by omega), if_neg (by omega), if_neg (by omega), if_neg (by omega), if_neg (by omega)]
    exact (if_neg (by omega)).trans (hz _ (Nat.le_refl _) (by omega)).2
  obtain ⟨m9, k1, k2, k3, k5⟩ := x10 (sa := sa) (sv := sv) (d := d + 2) s8.O s8.V (cN s 1 + 1) (cN s 1) 0 x6.2 x7.2 (by omega) (by omega) u1 (by decide) u2
  rw [g1]
  simp (disch := omega) only [gq_true, gb_true, gb_false, true_and, and_true, eq_self, not_false_eq_true, not_true_eq_false, true_or, or_true, false_or, or_false, false_and, and_false, c0_v, ci_v, cl_v, cf_v, pk_mul, nI_add, nI_clamp, nI_lt0, nI_0le, nI_eq0, nI_lt0r, nI_ltE, nI_leE, nI_eqE, nI_m1, in_t, ba0, ba1, Nat.one_ne_zero, Nat.reduceEqDiff, Nat.reduceLeDiff, Nat.add_eq_zero_iff, xk7 h10.1, s8.r3, s8.z, ok1 s8.O, (ov_nw s8.V).trans u1, dm_s, k1]
  exact ⟨m9, rfl, (g2.trans k2).mono (fun _ _ z => Or.inr z), h10.frA k2 hS.l hS.u, s8.upd k2 k3 k5⟩
end I88
