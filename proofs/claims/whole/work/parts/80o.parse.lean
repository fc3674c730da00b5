/-! shares: the reference, all of them -/
section D80
variable {sa sv d N : Nat} {m : am_M} {b : Nat → Nat} {n : Nat} {σ : Er ⊕ Nat} {s : Nat → Int32} {q : Nat → Int64} {l : List (Nat × Nat)}
theorem y266_14 (hC : WC s) (hN : WN s q) : ∀ f (l : List (Nat × Nat)) i m, l.length + f = 5 → RQ m N b n (.inr i) → RS m N s q → SHr m N l → ∃ m' l', r266 sa sv (d + 4) 14 [some (.ref (N + 243)), some (.int (nI 1))] [] m = some (.inl none, m') ∧ Fr (RSh N) m m' ∧ RQ m' N b n (pst (sShl s q b n f l i)) ∧ SHr m' N l' ∧ ∀ x, sShl s q b n f l i = .inr x → l' = x.2 := by
  intro f
  induction f with
  | zero => intro l i m hl h hR hH; have := hH.2.1; omega
  | succ f ih =>
    intro l i m hl h hR hH
    obtain ⟨m1, l1, g1, g2, g3, g4, g5⟩ := y267 (sa := sa) (sv := sv) (d := d) h hR hC hN hH
    have g3' : RQ m1 N b n (pst (sShare s q b n l i)) := g3
    have e2 := y242 (sa := sa) (sv := sv) (d := d + 2) g3'
    rw [b266_14]
    simp (disch := omega) only [gq_true, gb_true, gb_false, true_and, and_true, eq_self, not_false_eq_true, not_true_eq_false, true_or, or_true, false_or, or_false, false_and, and_false, c0_v, ci_v, cl_v, cf_v, pk_mul, nI_add, nI_clamp, nI_lt0, nI_0le, nI_eq0, nI_lt0r, nI_ltE, nI_leE, nI_eqE, nI_m1, in_t, ba0, ba1, Nat.one_ne_zero, Nat.reduceEqDiff, Nat.reduceLeDiff, Nat.add_eq_zero_iff, xk243 h.1, g1, xk243 g3'.1, e2]
    unfold sShl
    cases hs : sShare s q b n l i with
    | inl e =>
      rw [hs] at g3' e2
      refine ⟨m1, l1, ?_, g2, g3', g4, fun x hx => by cases hx⟩
      show r266 sa sv (d + 4) 14 [some (.ref (N + 243)), some (.int (nI 0))] [] m1 = _
      rw [b266_14]
      simp (disch := omega) only [gq_true, gb_true, gb_false, true_and, and_true, eq_self, not_false_eq_true, not_true_eq_false, true_or, or_true, false_or, or_false, false_and, and_false, c0_v, ci_v, cl_v, cf_v, pk_mul, nI_add, nI_clamp, nI_lt0, nI_0le, nI_eq0, nI_lt0r, nI_ltE, nI_leE, nI_eqE, nI_m1, in_t, ba0, ba1, Nat.one_ne_zero, Nat.reduceEqDiff, Nat.reduceLeDiff, Nat.add_eq_zero_iff]
    | inr x =>
      have hl1 : l1 = x.2 := g5 x hs
      subst hl1
      obtain ⟨q1, q2⟩ := sShare_len hs
      rw [hs] at g3'
      have g3'' : RQ m1 N b n (.inr x.1) := g3'
      show ∃ m' l', r266 sa sv (d + 4) 14 [some (.ref (N + 243)), some (.int (tr_ (decide (Kd b n x.1 = 2))))] [] m1 = _ ∧ _ ∧ RQ m' N b n (pst (if Kd b n x.1 = 2 then sShl s q b n f x.2 x.1 else .inr x)) ∧ _ ∧ ∀ y, (if Kd b n x.1 = 2 then sShl s q b n f x.2 x.1 else .inr x) = .inr y → l' = y.2
      by_cases e : Kd b n x.1 = 2
      · rw [if_pos e, decide_eq_true e]
        obtain ⟨m', l', k1, k2, k3, k4, k5⟩ := ih x.2 x.1 m1 (by omega) g3'' (hR.sh g2) g4
        exact ⟨m', l', k1, g2.trans k2, k3, k4, k5⟩
      · rw [if_neg e, decide_eq_false e]
        refine ⟨m1, x.2, ?_, g2, g3'', g4, fun y hy => by rw [← Sum.inr.inj hy]⟩
        show r266 sa sv (d + 4) 14 [some (.ref (N + 243)), some (.int (nI 0))] [] m1 = _
        rw [b266_14]
        simp (disch := omega) only [gq_true, gb_true, gb_false, true_and, and_true, eq_self, not_false_eq_true, not_true_eq_false, true_or, or_true, false_or, or_false, false_and, and_false, c0_v, ci_v, cl_v, cf_v, pk_mul, nI_add, nI_clamp, nI_lt0, nI_0le, nI_eq0, nI_lt0r, nI_ltE, nI_leE, nI_eqE, nI_m1, in_t, ba0, ba1, Nat.one_ne_zero, Nat.reduceEqDiff, Nat.reduceLeDiff, Nat.add_eq_zero_iff]
theorem y266 (h : RQ m N b n σ) (hR : RS m N s q) (hC : WC s) (hN : WN s q) : ∃ m' l', am_ca sa sv (d + 5) 266 [.ref (N + 243)] m = some (.inl none, m') ∧ Fr (RSh N) m m' ∧ RQ m' N b n (pst (eb σ (sShs s q b n))) ∧ SHr m' N l' ∧ ∀ x, eb σ (sShs s q b n) = .inr x → l' = x.2 := by
  obtain ⟨m1, g1, g2, g3⟩ := y239 (sa := sa) (sv := sv) (d := d + 1) h 15 (by decide)
  have g1' : am_ca sa sv (d + 4) 239 [.ref (N + 243), .long (89 : Int64)] m = some (.inl none, m1) := g1
  have hF : Fr (fun a k => a = N + 243 ∧ k = 27) m1 (si_ m1 (N + 243) 27 (nI 0)) := (Fr.refl _ _).si ⟨rfl, rfl⟩
  have hFm : Fr (RSh N) m (si_ m1 (N + 243) 27 (nI 0)) := (g2.mono fun _ _ z => z.sh).trans (hF.mono fun a k z => Or.inr (Or.inl z))
  have h2 := g3.fr hF (fun a k z => ⟨XF.a243 z.1 (by have := z.2; omega), by omega, fun _ => by omega⟩)
  have hH2 : SHr (si_ m1 (N + 243) 27 (nI 0)) N [] := ⟨by rw [gi_si, if_pos ⟨rfl, rfl⟩]; rfl, by show 0 ≤ 4; omega, fun j y hy => by simp at hy⟩
  have hR2 := hR.sh hFm
  have run : am_ca sa sv (d + 5) 266 [.ref (N + 243)] m = r266 sa sv (d + 4) 14 [some (.ref (N + 243)), some (.int (nI 1))] [] (si_ m1 (N + 243) 27 (nI 0)) := by
    rw [c266, b266_0]
    simp (disch := omega) only [gq_true, gb_true, gb_false, true_and, and_true, eq_self, not_false_eq_true, not_true_eq_false, true_or, or_true, false_or, or_false, false_and, and_false, c0_v, ci_v, cl_v, cf_v, pk_mul, nI_add, nI_clamp, nI_lt0, nI_0le, nI_eq0, nI_lt0r, nI_ltE, nI_leE, nI_eqE, nI_m1, in_t, ba0, ba1, Nat.one_ne_zero, Nat.reduceEqDiff, Nat.reduceLeDiff, Nat.add_eq_zero_iff, xk243 h.1, g1', xk243 g3.1]
  rw [run]
  generalize si_ m1 (N + 243) 27 (nI 0) = m2 at *
  cases σ with
  | inl e =>
    have h2' : RQ m2 N b n (.inl e) := h2
    obtain ⟨m3, l3, k1, k2, k3, k4, k5⟩ := y267 (sa := sa) (sv := sv) (d := d) h2' hR2 hC hN hH2
    have k3' : RQ m3 N b n (.inl e) := k3
    have e2 := y242 (sa := sa) (sv := sv) (d := d + 2) k3'
    refine ⟨m3, l3, ?_, hFm.trans k2, k3', k4, fun x hx => by cases hx⟩
    rw [b266_14]
    simp (disch := omega) only [gq_true, gb_true, gb_false, true_and, and_true, eq_self, not_false_eq_true, not_true_eq_false, true_or, or_true, false_or, or_false, false_and, and_false, c0_v, ci_v, cl_v, cf_v, pk_mul, nI_add, nI_clamp, nI_lt0, nI_0le, nI_eq0, nI_lt0r, nI_ltE, nI_leE, nI_eqE, nI_m1, in_t, ba0, ba1, Nat.one_ne_zero, Nat.reduceEqDiff, Nat.reduceLeDiff, Nat.add_eq_zero_iff, xk243 h2'.1, k1, xk243 k3'.1, e2]
    show r266 sa sv (d + 4) 14 [some (.ref (N + 243)), some (.int (nI 0))] [] m3 = _
    rw [b266_14]
    simp (disch := omega) only [gq_true, gb_true, gb_false, true_and, and_true, eq_self, not_false_eq_true, not_true_eq_false, true_or, or_true, false_or, or_false, false_and, and_false, c0_v, ci_v, cl_v, cf_v, pk_mul, nI_add, nI_clamp, nI_lt0, nI_0le, nI_eq0, nI_lt0r, nI_ltE, nI_leE, nI_eqE, nI_m1, in_t, ba0, ba1, Nat.one_ne_zero, Nat.reduceEqDiff, Nat.reduceLeDiff, Nat.add_eq_zero_iff]
  | inr i =>
    show ∃ m' l', _ ∧ _ ∧ RQ m' N b n (pst (sShs s q b n i)) ∧ _ ∧ ∀ x, sShs s q b n i = .inr x → l' = x.2
    unfold sShs
    cases ht : sTake b n 22 i with
    | inl e =>
      have h2' : RQ m2 N b n (.inl e) := by
        have : pst (eb (.inr i) (sTake b n (7 + 15))) = .inl e := by show pst (sTake b n 22 i) = _; rw [ht]; rfl
        rw [this] at h2; exact h2
      obtain ⟨m3, l3, k1, k2, k3, k4, k5⟩ := y267 (sa := sa) (sv := sv) (d := d) h2' hR2 hC hN hH2
      have k3' : RQ m3 N b n (.inl e) := k3
      have e2 := y242 (sa := sa) (sv := sv) (d := d + 2) k3'
      refine ⟨m3, l3, ?_, hFm.trans k2, k3', k4, fun x hx => by cases hx⟩
      rw [b266_14]
      simp (disch := omega) only [gq_true, gb_true, gb_false, true_and, and_true, eq_self, not_false_eq_true, not_true_eq_false, true_or, or_true, false_or, or_false, false_and, and_false, c0_v, ci_v, cl_v, cf_v, pk_mul, nI_add, nI_clamp, nI_lt0, nI_0le, nI_eq0, nI_lt0r, nI_ltE, nI_leE, nI_eqE, nI_m1, in_t, ba0, ba1, Nat.one_ne_zero, Nat.reduceEqDiff, Nat.reduceLeDiff, Nat.add_eq_zero_iff, xk243 h2'.1, k1, xk243 k3'.1, e2]
      show r266 sa sv (d + 4) 14 [some (.ref (N + 243)), some (.int (nI 0))] [] m3 = _
      rw [b266_14]
      simp (disch := omega) only [gq_true, gb_true, gb_false, true_and, and_true, eq_self, not_false_eq_true, not_true_eq_false, true_or, or_true, false_or, or_false, false_and, and_false, c0_v, ci_v, cl_v, cf_v, pk_mul, nI_add, nI_clamp, nI_lt0, nI_0le, nI_eq0, nI_lt0r, nI_ltE, nI_leE, nI_eqE, nI_m1, in_t, ba0, ba1, Nat.one_ne_zero, Nat.reduceEqDiff, Nat.reduceLeDiff, Nat.add_eq_zero_iff]
    | inr x =>
      have h2' : RQ m2 N b n (.inr x.1) := by
        have : pst (eb (.inr i) (sTake b n (7 + 15))) = .inr x.1 := by show pst (sTake b n 22 i) = _; rw [ht]; rfl
        rw [this] at h2; exact h2
      obtain ⟨m', l', k1, k2, k3, k4, k5⟩ := y266_14 (sa := sa) (sv := sv) (d := d) hC hN 5 [] x.1 m2 rfl h2' hR2 hH2
      exact ⟨m', l', k1, hFm.trans k2, k3, k4, k5⟩
end D80
