/-! the reference reads works' names, and semicolons -/
section D80
variable {sa sv d N : Nat} {m : am_M} {b : Nat → Nat} {n : Nat} {σ : Er ⊕ Nat} {s : Nat → Int32} {q : Nat → Int64}
/-- what is asked of a work: nothing, room for a source, room for a split -/
def wq_ (t : Nat) (l1 l2 : Int32) : Prop := (t = 0 ∧ l1 = -1 ∧ l2 = nI 0) ∨ (t = 1 ∧ l1 = nI 41 ∧ l2 = nI 3) ∨ (t = 2 ∧ l1 = nI 0 ∧ l2 = nI 4)
end D80
/-! the class reads names -/
section I80
variable {sa sv d N o : Nat} {m : am_M} {b : Nat → Nat} {n T i : Nat} {s : Nat → Int32} {q : Nat → Int64}
/-- the reader of statements reads into the office at o, which holds s and q -/
def SR (m : am_M) (N o : Nat) (s : Nat → Int32) (q : Nat → Int64) : Prop := gr_ m (N + 7) 2 = o ∧ gr_ m (N + 7) 3 = o + 1 ∧ OS m o ∧ OV m o s q ∧ N + 27 ≤ o ∧ o + 27 ≤ N + 243
theorem SR.fr {P : Nat → Nat → Prop} {m' : am_M} (h : SR m N o s q) (hf : Fr P m m') (hp : ∀ a k, P a k → a < N + 27 ∧ ¬ a = N + 7) : SR m' N o s q := by
  obtain ⟨h1, h2, h3, h4, h5, h6⟩ := h
  exact ⟨(hf.2.2.2.1 _ _ (fun z => (hp _ _ z).2 rfl)).trans h1, (hf.2.2.2.1 _ _ (fun z => (hp _ _ z).2 rfl)).trans h2, h3.fr' hf (fun a k h7 h8 z => by have := hp _ _ z; omega), h4.fr hf (fun a k h7 h8 z => by have := hp _ _ z; omega), h5, h6⟩
theorem SR.stp (h : SR m N o s q) (j : Nat) : SR (stp m N j) N o s q := h.fr (P := P5 N) ((Fr.refl _ _).si ⟨rfl, rfl⟩) (fun a k z => by have := z.1; omega)
theorem x118 (h : CT m N b n T i) (hk : ¬ Kd b n i = 0) (c k : Nat) (hck : c ≤ k) (hk2 : k < 2 ^ 30) : CO N m (fun _ => none) (sFst b n c k i) (am_ca sa sv (d + 2) 118 [.ref (N + 7), .int (nI c), .int (nI k)] m) := by
  rw [c118, b118_0]
  simp (disch := omega) only [gq_true, gb_true, gb_false, true_and, and_true, eq_self, not_false_eq_true, not_true_eq_false, true_or, or_true, false_or, or_false, false_and, and_false, c0_v, ci_v, cl_v, cf_v, pk_mul, nI_add, nI_clamp, nI_lt0, nI_0le, nI_eq0, nI_lt0r, nI_ltE, nI_leE, nI_eqE, nI_m1, in_t, ba0, ba1, Nat.one_ne_zero, Nat.reduceEqDiff, Nat.reduceLeDiff, Nat.add_eq_zero_iff, xk7 h.1, xr7_0 h.1, xk2 h.1]
  unfold sFst
  by_cases e : c = k
  · rw [if_pos e, gb_neg (by omega), x149 h 6, c0_x, xg_v]
    exact CO.fail h 6
  · rw [if_neg e, gb_pos (by omega), x143 h (h.lt hk), c0_v]
    rfl
theorem x119 (h : CT m N b n T i) (hS : SR m N o s q) (hC : WC s) : CO N m (fun v => some (.long v)) (sNew s q b n i) (am_ca sa sv (d + 3) 119 [.ref (N + 7)] m) := by
  obtain ⟨r2, r3, hO, hV, ho1, ho2⟩ := hS
  have e1 := x146 (sa := sa) (sv := sv) (d := d) h
  have hz : (o + 1 = 0) = False := eq_false (by omega)
  rw [c119, b119_0]
  simp (disch := omega) only [gq_true, gb_true, gb_false, true_and, and_true, eq_self, not_false_eq_true, not_true_eq_false, true_or, or_true, false_or, or_false, false_and, and_false, c0_v, ci_v, cl_v, cf_v, pk_mul, nI_add, nI_clamp, nI_lt0, nI_0le, nI_eq0, nI_lt0r, nI_ltE, nI_leE, nI_eqE, nI_m1, in_t, ba0, ba1, Nat.one_ne_zero, Nat.reduceEqDiff, Nat.reduceLeDiff, Nat.add_eq_zero_iff, xk7 h.1, xr7_0 h.1, xk2 h.1]
  unfold sNew
  unfold sName at e1
  by_cases e : Kd b n i = 2
  · rw [if_pos e] at e1 ⊢
    have e1' : am_ca sa sv (d + 2) 146 [.ref (N + 2)] m = some (.inl (some (.long (Vl b n i))), stp m N i) := e1
    rw [stp_id h] at e1'
    rw [e1']
    simp (disch := omega) only [gq_true, gb_true, gb_false, true_and, and_true, eq_self, not_false_eq_true, not_true_eq_false, true_or, or_true, false_or, or_false, false_and, and_false, c0_v, ci_v, cl_v, cf_v, pk_mul, nI_add, nI_clamp, nI_lt0, nI_0le, nI_eq0, nI_lt0r, nI_ltE, nI_leE, nI_eqE, nI_m1, in_t, ba0, ba1, Nat.one_ne_zero, Nat.reduceEqDiff, Nat.reduceLeDiff, Nat.add_eq_zero_iff, xk7 h.1, r3, hz, ok1 hO, x7 hO hV hC, xr7_0 h.1, xk2 h.1]
    by_cases t : pnm_ s q (Vl b n i) < cN s 0 ∨ wnm_ s q (Vl b n i) < cN s 1
    · rw [if_pos t, if_pos t, gb_neg (by decide), x149 h 4, c0_x, xg_v]
      exact CO.fail h 4
    · rw [if_neg t, if_neg t, gb_pos (by decide), x143 h (h.lt (by omega)), c0_v]
      rfl
  · rw [if_neg e] at e1 ⊢
    obtain ⟨m', g1, g2⟩ := e1
    exact ⟨m', by rw [g1, cl_x, xg_v], g2⟩
theorem x120 (h : CT m N b n T i) (hS : SR m N o s q) (hC : WC s) : CO N m (fun v => some (.int (nI v))) (sPay s q b n i) (am_ca sa sv (d + 3) 120 [.ref (N + 7)] m) := by
  obtain ⟨r2, r3, hO, hV, ho1, ho2⟩ := hS
  have hnp := isN_lt (wc_np hC) (by decide)
  have e1 := x146 (sa := sa) (sv := sv) (d := d) h
  have hz : (o + 1 = 0) = False := eq_false (by omega)
  rw [c120, b120_0]
  simp (disch := omega) only [gq_true, gb_true, gb_false, true_and, and_true, eq_self, not_false_eq_true, not_true_eq_false, true_or, or_true, false_or, or_false, false_and, and_false, c0_v, ci_v, cl_v, cf_v, pk_mul, nI_add, nI_clamp, nI_lt0, nI_0le, nI_eq0, nI_lt0r, nI_ltE, nI_leE, nI_eqE, nI_m1, in_t, ba0, ba1, Nat.one_ne_zero, Nat.reduceEqDiff, Nat.reduceLeDiff, Nat.add_eq_zero_iff, xk7 h.1, xr7_0 h.1, xk2 h.1, r3, hz]
  unfold sPay
  unfold sName at e1
  by_cases e : Kd b n i = 2
  · rw [if_pos e] at e1 ⊢
    have e1' : am_ca sa sv (d + 2) 146 [.ref (N + 2)] m = some (.inl (some (.long (Vl b n i))), stp m N i) := e1
    rw [stp_id h] at e1'
    rw [e1']
    simp (disch := omega) only [gq_true, gb_true, gb_false, true_and, and_true, eq_self, not_false_eq_true, not_true_eq_false, true_or, or_true, false_or, or_false, false_and, and_false, c0_v, ci_v, cl_v, cf_v, pk_mul, nI_add, nI_clamp, nI_lt0, nI_0le, nI_eq0, nI_lt0r, nI_ltE, nI_leE, nI_eqE, nI_m1, in_t, ba0, ba1, Nat.one_ne_zero, Nat.reduceEqDiff, Nat.reduceLeDiff, Nat.add_eq_zero_iff, xk7 h.1, r3, hz, ok1 hO, x5 hO hV hC, xr7_0 h.1, xk2 h.1]
    rw [ix_m1 (by omega)]
    by_cases t : pnm_ s q (Vl b n i) < cN s 0
    · rw [if_pos t, gb_neg (by omega), x143 h (h.lt (by omega)), c0_v, ix_s t]
      rfl
    · rw [if_neg t, gb_pos (by omega), x149 h 3, c0_x, xg_v]
      exact CO.fail h 3
  · rw [if_neg e] at e1 ⊢
    obtain ⟨m', g1, g2⟩ := e1
    exact ⟨m', by rw [g1, cl_x, xg_v], g2⟩
theorem x121 (h : CT m N b n T i) (hS : SR m N o s q) (hC : WC s) : CO N m (fun v => some (.int (nI v))) (sWrk s q b n 0 i) (am_ca sa sv (d + 3) 121 [.ref (N + 7)] m) := by
  obtain ⟨r2, r3, hO, hV, ho1, ho2⟩ := hS
  have hnp := isN_lt (wc_nw hC) (by decide)
  have e1 := x146 (sa := sa) (sv := sv) (d := d) h
  have hz : (o + 1 = 0) = False := eq_false (by omega)
  rw [c121, b121_0]
  simp (disch := omega) only [gq_true, gb_true, gb_false, true_and, and_true, eq_self, not_false_eq_true, not_true_eq_false, true_or, or_true, false_or, or_false, false_and, and_false, c0_v, ci_v, cl_v, cf_v, pk_mul, nI_add, nI_clamp, nI_lt0, nI_0le, nI_eq0, nI_lt0r, nI_ltE, nI_leE, nI_eqE, nI_m1, in_t, ba0, ba1, Nat.one_ne_zero, Nat.reduceEqDiff, Nat.reduceLeDiff, Nat.add_eq_zero_iff, xk7 h.1, xr7_0 h.1, xk2 h.1, r3, hz]
  unfold sWrk
  unfold sName at e1
  by_cases e : Kd b n i = 2
  · rw [if_pos e] at e1 ⊢
    have e1' : am_ca sa sv (d + 2) 146 [.ref (N + 2)] m = some (.inl (some (.long (Vl b n i))), stp m N i) := e1
    rw [stp_id h] at e1'
    rw [e1']
    simp (disch := omega) only [gq_true, gb_true, gb_false, true_and, and_true, eq_self, not_false_eq_true, not_true_eq_false, true_or, or_true, false_or, or_false, false_and, and_false, c0_v, ci_v, cl_v, cf_v, pk_mul, nI_add, nI_clamp, nI_lt0, nI_0le, nI_eq0, nI_lt0r, nI_ltE, nI_leE, nI_eqE, nI_m1, in_t, ba0, ba1, Nat.one_ne_zero, Nat.reduceEqDiff, Nat.reduceLeDiff, Nat.add_eq_zero_iff, xk7 h.1, r3, hz, ok1 hO, x6 hO hV hC, xr7_0 h.1, xk2 h.1]
    rw [ix_m1 (by omega)]
    by_cases t : wnm_ s q (Vl b n i) < cN s 1
    · rw [if_pos t, gb_neg (by omega), x143 h (h.lt (by omega)), c0_v, ix_s t, if_neg (by rintro (⟨z, -⟩ | ⟨z, -⟩) <;> omega)]
      rfl
    · rw [if_neg t, gb_pos (by omega), x149 h 3, c0_x, xg_v]
      exact CO.fail h 3
  · rw [if_neg e] at e1 ⊢
    obtain ⟨m', g1, g2⟩ := e1
    exact ⟨m', by rw [g1, cl_x, xg_v], g2⟩
theorem x122 (h : CT m N b n T i) (hS : SR m N o s q) (hC : WC s) (hW : WW s) (t : Nat) (ht : t = 1 ∨ t = 2) : CO N m (fun v => some (.int (nI v))) (sWrk s q b n t i) (am_ca sa sv (d + 3) 122 [.ref (N + 7), .int (nI (if t = 1 then 1 else 0))] m) := by
  obtain ⟨r2, r3, hO, hV, ho1, ho2⟩ := hS
  have hnp := isN_lt (wc_nw hC) (by decide)
  have e1 := x146 (sa := sa) (sv := sv) (d := d) h
  have hz : (o + 1 = 0) = False := eq_false (by omega)
  rw [c122, b122_0]
  simp (disch := omega) only [gq_true, gb_true, gb_false, true_and, and_true, eq_self, not_false_eq_true, not_true_eq_false, true_or, or_true, false_or, or_false, false_and, and_false, c0_v, ci_v, cl_v, cf_v, pk_mul, nI_add, nI_clamp, nI_lt0, nI_0le, nI_eq0, nI_lt0r, nI_ltE, nI_leE, nI_eqE, nI_m1, in_t, ba0, ba1, Nat.one_ne_zero, Nat.reduceEqDiff, Nat.reduceLeDiff, Nat.add_eq_zero_iff, xk7 h.1, xr7_0 h.1, xk2 h.1, r3, hz]
  unfold sWrk
  unfold sName at e1
  by_cases e : Kd b n i = 2
  · rw [if_pos e] at e1 ⊢
    have e1' : am_ca sa sv (d + 2) 146 [.ref (N + 2)] m = some (.inl (some (.long (Vl b n i))), stp m N i) := e1
    rw [stp_id h] at e1'
    rw [e1']
    simp (disch := omega) only [gq_true, gb_true, gb_false, true_and, and_true, eq_self, not_false_eq_true, not_true_eq_false, true_or, or_true, false_or, or_false, false_and, and_false, c0_v, ci_v, cl_v, cf_v, pk_mul, nI_add, nI_clamp, nI_lt0, nI_0le, nI_eq0, nI_lt0r, nI_ltE, nI_leE, nI_eqE, nI_m1, in_t, ba0, ba1, Nat.one_ne_zero, Nat.reduceEqDiff, Nat.reduceLeDiff, Nat.add_eq_zero_iff, xk7 h.1, r3, hz, ok1 hO, x6 hO hV hC, xr7_0 h.1, xk2 h.1]
    rw [ix_m1 (by omega)]
    by_cases tt : wnm_ s q (Vl b n i) < cN s 1
    · rw [if_pos tt, gb_neg (by omega), ix_s tt]
      generalize wnm_ s q (Vl b n i) = w at *
      obtain ⟨s1, s1'⟩ := ((ww_ns hW w tt).1).c (by decide)
      obtain ⟨s2, s2'⟩ := (ww_no hW w tt).c (by decide)
      rw [b122_28]
      rcases ht with rfl | rfl
      · rw [if_pos (show (1 : Nat) = 1 from rfl)]
        simp (disch := omega) only [gq_true, gb_true, gb_false, true_and, and_true, eq_self, not_false_eq_true, not_true_eq_false, true_or, or_true, false_or, or_false, false_and, and_false, c0_v, ci_v, cl_v, cf_v, pk_mul, nI_add, nI_clamp, nI_lt0, nI_0le, nI_eq0, nI_lt0r, nI_ltE, nI_leE, nI_eqE, nI_m1, in_t, ba0, ba1, Nat.one_ne_zero, Nat.reduceEqDiff, Nat.reduceLeDiff, Nat.add_eq_zero_iff, xk7 h.1, r3, hz, ok1 hO, x16 hO hV hC w (by omega), if_pos tt, s2, xr7_0 h.1, xk2 h.1]
        by_cases r : cN s (59 + 48 * w) = 3
        · rw [gb_neg (by omega), x149 h 6, c0_x, xg_v, if_pos (show rm_ s 1 w from Or.inl ⟨rfl, r⟩)]
          exact CO.fail h 6
        · rw [gb_pos (by omega), x143 h (h.lt (by omega)), c0_v, if_neg (show ¬ rm_ s 1 w by rintro (⟨-, z⟩ | ⟨z, -⟩) <;> omega)]
          rfl
      · rw [if_neg (show ¬ (2 : Nat) = 1 by decide)]
        simp (disch := omega) only [gq_true, gb_true, gb_false, true_and, and_true, eq_self, not_false_eq_true, not_true_eq_false, true_or, or_true, false_or, or_false, false_and, and_false, c0_v, ci_v, cl_v, cf_v, pk_mul, nI_add, nI_clamp, nI_lt0, nI_0le, nI_eq0, nI_lt0r, nI_ltE, nI_leE, nI_eqE, nI_m1, in_t, ba0, ba1, Nat.one_ne_zero, Nat.reduceEqDiff, Nat.reduceLeDiff, Nat.add_eq_zero_iff, xk7 h.1, r3, hz, ok1 hO, x23 hO hV hC w (by omega), if_pos tt, s1, xr7_0 h.1, xk2 h.1]
        by_cases r : cN s (18 + 48 * w) = 4
        · rw [gb_neg (by omega), x149 h 6, c0_x, xg_v, if_pos (show rm_ s 2 w from Or.inr ⟨rfl, r⟩)]
          exact CO.fail h 6
        · rw [gb_pos (by omega), x143 h (h.lt (by omega)), c0_v, if_neg (show ¬ rm_ s 2 w by rintro (⟨z, -⟩ | ⟨-, z⟩) <;> omega)]
          rfl
    · rw [if_neg tt, gb_pos (by omega), x149 h 3, c0_x, xg_v]
      exact CO.fail h 3
  · rw [if_neg e] at e1 ⊢
    obtain ⟨m', g1, g2⟩ := e1
    exact ⟨m', by rw [g1, cl_x, xg_v], g2⟩
end I80
