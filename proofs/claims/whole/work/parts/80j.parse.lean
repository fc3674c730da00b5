/-! the reference reads names -/
def sNew (s : Nat → Int32) (q : Nat → Int64) (b : Nat → Nat) (n i : Nat) : Er ⊕ (Nat × Int64) := if Kd b n i = 2 then (if pnm_ s q (Vl b n i) < cN s 0 ∨ wnm_ s q (Vl b n i) < cN s 1 then rr_ b n 4 i else .inr (i + 1, Vl b n i)) else rr_ b n 1 i
def sPay (s : Nat → Int32) (q : Nat → Int64) (b : Nat → Nat) (n i : Nat) : Er ⊕ (Nat × Nat) := if Kd b n i = 2 then (if pnm_ s q (Vl b n i) < cN s 0 then .inr (i + 1, pnm_ s q (Vl b n i)) else rr_ b n 3 i) else rr_ b n 1 i
/-- has a work as many sources, or splits, as can be -/
def rm_ (s : Nat → Int32) (t w : Nat) : Prop := (t = 1 ∧ cN s (59 + 48 * w) = 3) ∨ (t = 2 ∧ cN s (18 + 48 * w) = 4)
noncomputable def sWrk (s : Nat → Int32) (q : Nat → Int64) (b : Nat → Nat) (n t i : Nat) : Er ⊕ (Nat × Nat) := if Kd b n i = 2 then (if wnm_ s q (Vl b n i) < cN s 1 then @ite _ (rm_ s t (wnm_ s q (Vl b n i))) (Classical.propDecidable _) (rr_ b n 6 i) (.inr (i + 1, wnm_ s q (Vl b n i))) else rr_ b n 3 i) else rr_ b n 1 i
def sFst (b : Nat → Nat) (n c k i : Nat) : Er ⊕ (Nat × Unit) := if c = k then rr_ b n 6 i else .inr (i + 1, ())
/-- behind the semicolon's test the reference stays at it -/
def sFit (b : Nat → Nat) (n why i : Nat) : Er ⊕ (Nat × Unit) := if Kd b n i = 4 then (if why = 0 then .inr (i, ()) else .inl (5, St b n i, why)) else rr_ b n 1 i
theorem fst_bd (P : Nat → Bool) (n : Nat) : fst_ P n 0 ≤ n := by
  have := fst_le (P := P) n 0
  omega
theorem ix_s {j n : Nat} (h : j < n) : ix_ j n = nI j := if_pos h
theorem ix_n {j n : Nat} (h : ¬ j < n) : ix_ j n = -1 := if_neg h
section D80
variable {sa sv d N : Nat} {m : am_M} {b : Nat → Nat} {n : Nat} {σ : Er ⊕ Nat} {s : Nat → Int32} {q : Nat → Int64}
theorem RS.h {m' : am_M} (h : RS m N s q) (hf : Fr (RH N) m m') : RS m' N s q := ⟨h.1.frg hf (fun _ _ z => z.x), (funext fun k => hf.2.1 _ _ (by unfold RH; omega)).trans h.2.1, (funext fun k => hf.2.2.1 _ _ (by unfold RH; omega)).trans h.2.2⟩
theorem y259 (hR : RS m N s q) (hC : WC s) (hN : WN s q) : am_ca sa sv (d + 1) 259 [.ref (N + 243)] m = some (.inl (some (.int (ix_ (pnm_ s q (gl_ m (N + 243) 14)) (cN s 0)))), m) := by
  obtain ⟨e0, b0⟩ := (wc_np hC).c (by decide)
  have step : ∀ j i, i + j = cN s 0 → r259 sa sv d 4 [some (.ref (N + 243)), some (.int (fl_ (fun k acc => if decide (q (462 + k) = gl_ m (N + 243) 14) = true then nI k else acc) (-1) i)), some (.int (nI i))] [] m = some (.inl (some (.int (fl_ (fun k acc => if decide (q (462 + k) = gl_ m (N + 243) 14) = true then nI k else acc) (-1) (cN s 0)))), m) := by
    intro j
    induction j with
    | zero =>
      intro i hi
      obtain rfl : i = cN s 0 := by omega
      rw [b259_4]
      simp (disch := omega) only [gq_true, gb_true, gb_false, true_and, and_true, eq_self, not_false_eq_true, not_true_eq_false, true_or, or_true, false_or, or_false, false_and, and_false, c0_v, ci_v, cl_v, cf_v, pk_mul, nI_add, nI_clamp, nI_lt0, nI_0le, nI_eq0, nI_lt0r, nI_ltE, nI_leE, nI_eqE, nI_m1, in_t, ba0, ba1, Nat.one_ne_zero, Nat.reduceEqDiff, Nat.reduceLeDiff, Nat.add_eq_zero_iff, rk243 hR, rr15 hR, rk245 hR, rr19 hR, rk249 hR, rs hR, rq hR]
      rw [e0]
      simp (disch := omega) only [gq_true, gb_true, gb_false, true_and, and_true, eq_self, not_false_eq_true, not_true_eq_false, true_or, or_true, false_or, or_false, false_and, and_false, c0_v, ci_v, cl_v, cf_v, pk_mul, nI_add, nI_clamp, nI_lt0, nI_0le, nI_eq0, nI_lt0r, nI_ltE, nI_leE, nI_eqE, nI_m1, in_t, ba0, ba1, Nat.one_ne_zero, Nat.reduceEqDiff, Nat.reduceLeDiff, Nat.add_eq_zero_iff, Nat.le_refl]
    | succ j ih =>
      intro i hi
      have h1 := ih (i + 1) (by omega)
      rw [fl_s] at h1
      rw [b259_4]
      simp (disch := omega) only [gq_true, gb_true, gb_false, true_and, and_true, eq_self, not_false_eq_true, not_true_eq_false, true_or, or_true, false_or, or_false, false_and, and_false, c0_v, ci_v, cl_v, cf_v, pk_mul, nI_add, nI_clamp, nI_lt0, nI_0le, nI_eq0, nI_lt0r, nI_ltE, nI_leE, nI_eqE, nI_m1, in_t, ba0, ba1, Nat.one_ne_zero, Nat.reduceEqDiff, Nat.reduceLeDiff, Nat.add_eq_zero_iff, rk243 hR, rr15 hR, rk245 hR, rr19 hR, rk249 hR, rs hR, rq hR]
      rw [e0]
      simp (disch := omega) only [gq_true, gb_true, gb_false, true_and, and_true, eq_self, not_false_eq_true, not_true_eq_false, true_or, or_true, false_or, or_false, false_and, and_false, c0_v, ci_v, cl_v, cf_v, pk_mul, nI_add, nI_clamp, nI_lt0, nI_0le, nI_eq0, nI_lt0r, nI_ltE, nI_leE, nI_eqE, nI_m1, in_t, ba0, ba1, Nat.one_ne_zero, Nat.reduceEqDiff, Nat.reduceLeDiff, Nat.add_eq_zero_iff, rk243 hR, rr15 hR, rk245 hR, rr19 hR, rk249 hR, rs hR, rq hR, lgc_eq]
      rw [gb_neg (by omega)]
      by_cases e : q (462 + i) = gl_ m (N + 243) 14
      · rw [gb_pos e]
        rw [if_pos (decide_eq_true e)] at h1
        exact h1
      · rw [gb_neg e]
        rw [if_neg (by rw [decide_eq_false e]; decide)] at h1
        exact h1
  rw [c259, b259_0]
  have h0 := step (cN s 0) 0 (by omega)
  refine h0.trans ?_
  rw [fl_fst (fun k => decide (q (462 + k) = gl_ m (N + 243) 14)) nI (-1) (cN s 0) (fun i j h1 h2 h3 h4 => wn_p hN i j h1 h2 ((of_decide_eq_true h3).trans (of_decide_eq_true h4).symm))]
  rfl
theorem y260 (hR : RS m N s q) (hC : WC s) (hN : WN s q) : am_ca sa sv (d + 1) 260 [.ref (N + 243)] m = some (.inl (some (.int (ix_ (wnm_ s q (gl_ m (N + 243) 14)) (cN s 1)))), m) := by
  obtain ⟨e0, b0⟩ := (wc_nw hC).c (by decide)
  have step : ∀ j i, i + j = cN s 1 → r260 sa sv d 4 [some (.ref (N + 243)), some (.int (fl_ (fun k acc => if decide (q (472 + k) = gl_ m (N + 243) 14) = true then nI k else acc) (-1) i)), some (.int (nI i))] [] m = some (.inl (some (.int (fl_ (fun k acc => if decide (q (472 + k) = gl_ m (N + 243) 14) = true then nI k else acc) (-1) (cN s 1)))), m) := by
    intro j
    induction j with
    | zero =>
      intro i hi
      obtain rfl : i = cN s 1 := by omega
      rw [b260_4]
      simp (disch := omega) only [gq_true, gb_true, gb_false, true_and, and_true, eq_self, not_false_eq_true, not_true_eq_false, true_or, or_true, false_or, or_false, false_and, and_false, c0_v, ci_v, cl_v, cf_v, pk_mul, nI_add, nI_clamp, nI_lt0, nI_0le, nI_eq0, nI_lt0r, nI_ltE, nI_leE, nI_eqE, nI_m1, in_t, ba0, ba1, Nat.one_ne_zero, Nat.reduceEqDiff, Nat.reduceLeDiff, Nat.add_eq_zero_iff, rk243 hR, rr15 hR, rk245 hR, rr19 hR, rk249 hR, rs hR, rq hR]
      rw [e0]
      simp (disch := omega) only [gq_true, gb_true, gb_false, true_and, and_true, eq_self, not_false_eq_true, not_true_eq_false, true_or, or_true, false_or, or_false, false_and, and_false, c0_v, ci_v, cl_v, cf_v, pk_mul, nI_add, nI_clamp, nI_lt0, nI_0le, nI_eq0, nI_lt0r, nI_ltE, nI_leE, nI_eqE, nI_m1, in_t, ba0, ba1, Nat.one_ne_zero, Nat.reduceEqDiff, Nat.reduceLeDiff, Nat.add_eq_zero_iff, Nat.le_refl]
    | succ j ih =>
      intro i hi
      have h1 := ih (i + 1) (by omega)
      rw [fl_s] at h1
      rw [b260_4]
      simp (disch := omega) only [gq_true, gb_true, gb_false, true_and, and_true, eq_self, not_false_eq_true, not_true_eq_false, true_or, or_true, false_or, or_false, false_and, and_false, c0_v, ci_v, cl_v, cf_v, pk_mul, nI_add, nI_clamp, nI_lt0, nI_0le, nI_eq0, nI_lt0r, nI_ltE, nI_leE, nI_eqE, nI_m1, in_t, ba0, ba1, Nat.one_ne_zero, Nat.reduceEqDiff, Nat.reduceLeDiff, Nat.add_eq_zero_iff, rk243 hR, rr15 hR, rk245 hR, rr19 hR, rk249 hR, rs hR, rq hR]
      rw [e0]
      simp (disch := omega) only [gq_true, gb_true, gb_false, true_and, and_true, eq_self, not_false_eq_true, not_true_eq_false, true_or, or_true, false_or, or_false, false_and, and_false, c0_v, ci_v, cl_v, cf_v, pk_mul, nI_add, nI_clamp, nI_lt0, nI_0le, nI_eq0, nI_lt0r, nI_ltE, nI_leE, nI_eqE, nI_m1, in_t, ba0, ba1, Nat.one_ne_zero, Nat.reduceEqDiff, Nat.reduceLeDiff, Nat.add_eq_zero_iff, rk243 hR, rr15 hR, rk245 hR, rr19 hR, rk249 hR, rs hR, rq hR, lgc_eq]
      rw [gb_neg (by omega)]
      by_cases e : q (472 + i) = gl_ m (N + 243) 14
      · rw [gb_pos e]
        rw [if_pos (decide_eq_true e)] at h1
        exact h1
      · rw [gb_neg e]
        rw [if_neg (by rw [decide_eq_false e]; decide)] at h1
        exact h1
  rw [c260, b260_0]
  have h0 := step (cN s 1) 0 (by omega)
  refine h0.trans ?_
  rw [fl_fst (fun k => decide (q (472 + k) = gl_ m (N + 243) 14)) nI (-1) (cN s 1) (fun i j h1 h2 h3 h4 => wn_w hN i j h1 h2 ((of_decide_eq_true h3).trans (of_decide_eq_true h4).symm))]
  rfl
theorem RQ.v {i : Nat} (h : RQ m N b n (.inr i)) (hk : Kd b n i = 2) : gl_ m (N + 243) 14 = Vl b n i := h.2.2.2.2.2.2.2.2.2.2.2.2 (srt_1.mpr (Or.inl hk))
theorem y261 (h : RQ m N b n σ) (hk : ∀ i, σ = .inr i → ¬ Kd b n i = 1) (c k : Nat) (hc : c < 2 ^ 30) (hk2 : k < 2 ^ 30) : ∃ m', am_ca sa sv (d + 3) 261 [.ref (N + 243), .int (nI c), .int (nI k)] m = some (.inl none, m') ∧ Fr (RH N) m m' ∧ RQ m' N b n (pst (eb σ (sFst b n c k))) := by
  have e1 := y235 (sa := sa) (sv := sv) (d := d + 1) h
  cases σ with
  | inl e =>
    have e2 := y234e (sa := sa) (sv := sv) (d := d + 1) h (nI 6)
    refine ⟨m, ?_, Fr.refl _ _, h⟩
    rw [gs_l, tr_f] at e1
    rw [c261, b261_0]
    simp (disch := omega) only [gq_true, gb_true, gb_false, true_and, and_true, eq_self, not_false_eq_true, not_true_eq_false, true_or, or_true, false_or, or_false, false_and, and_false, c0_v, ci_v, cl_v, cf_v, pk_mul, nI_add, nI_clamp, nI_lt0, nI_0le, nI_eq0, nI_lt0r, nI_ltE, nI_leE, nI_eqE, nI_m1, in_t, ba0, ba1, Nat.one_ne_zero, Nat.reduceEqDiff, Nat.reduceLeDiff, Nat.add_eq_zero_iff, xk243 h.1, e1, e2, gb_same]
  | inr i =>
    rw [gs_r, tr_t] at e1
    show ∃ m', _ ∧ _ ∧ RQ m' N b n (pst (sFst b n c k i))
    unfold sFst
    by_cases e : c = k
    · rw [if_pos e]
      obtain ⟨m', g1, g2, g3⟩ := y234 (sa := sa) (sv := sv) (d := d + 1) h 6 (by decide) (by decide) (fun z => absurd z (hk i rfl))
      have e3 := y235 (sa := sa) (sv := sv) (d := d + 1) g3
      rw [gs_l, tr_f] at e3
      refine ⟨m', ?_, g2, g3⟩
      rw [c261, b261_0]
      simp (disch := omega) only [gq_true, gb_true, gb_false, true_and, and_true, eq_self, not_false_eq_true, not_true_eq_false, true_or, or_true, false_or, or_false, false_and, and_false, c0_v, ci_v, cl_v, cf_v, pk_mul, nI_add, nI_clamp, nI_lt0, nI_0le, nI_eq0, nI_lt0r, nI_ltE, nI_leE, nI_eqE, nI_m1, in_t, ba0, ba1, Nat.one_ne_zero, Nat.reduceEqDiff, Nat.reduceLeDiff, Nat.add_eq_zero_iff, xk243 h.1, g1, xk243 g3.1, e3]
      rw [gb_pos e]
    · rw [if_neg e]
      obtain ⟨m', g1, g2, g3⟩ := y233n (sa := sa) (sv := sv) (d := d) h
      refine ⟨m', ?_, g2, g3⟩
      rw [c261, b261_0]
      simp (disch := omega) only [gq_true, gb_true, gb_false, true_and, and_true, eq_self, not_false_eq_true, not_true_eq_false, true_or, or_true, false_or, or_false, false_and, and_false, c0_v, ci_v, cl_v, cf_v, pk_mul, nI_add, nI_clamp, nI_lt0, nI_0le, nI_eq0, nI_lt0r, nI_ltE, nI_leE, nI_eqE, nI_m1, in_t, ba0, ba1, Nat.one_ne_zero, Nat.reduceEqDiff, Nat.reduceLeDiff, Nat.add_eq_zero_iff, xk243 h.1, e1, g1]
      rw [gb_neg e]
theorem y262 (h : RQ m N b n σ) (hR : RS m N s q) (hC : WC s) (hN : WN s q) : ∃ m' v, am_ca sa sv (d + 3) 262 [.ref (N + 243)] m = some (.inl (some (.long (v))), m') ∧ Fr (RH N) m m' ∧ RQ m' N b n (pst (eb σ (sNew s q b n))) ∧ ∀ x, eb σ (sNew s q b n) = .inr x → v = x.2 := by
  have hnp := isN_lt (wc_np hC) (by decide)
  have hnw := isN_lt (wc_nw hC) (by decide)
  have e1 := y235 (sa := sa) (sv := sv) (d := d + 1) h
  have e2 := y242 (sa := sa) (sv := sv) (d := d) h
  cases σ with
  | inl e =>
    refine ⟨m, gl_ m (N + 243) 14, ?_, Fr.refl _ _, h, fun x hx => by cases hx⟩
    rw [gs_l, tr_f] at e1
    rw [c262, b262_0]
    simp (disch := omega) only [gq_true, gb_true, gb_false, true_and, and_true, eq_self, not_false_eq_true, not_true_eq_false, true_or, or_true, false_or, or_false, false_and, and_false, c0_v, ci_v, cl_v, cf_v, pk_mul, nI_add, nI_clamp, nI_lt0, nI_0le, nI_eq0, nI_lt0r, nI_ltE, nI_leE, nI_eqE, nI_m1, in_t, ba0, ba1, Nat.one_ne_zero, Nat.reduceEqDiff, Nat.reduceLeDiff, Nat.add_eq_zero_iff, xk243 h.1, e1, b262_19]
  | inr i =>
    rw [gs_r, tr_t] at e1
    rw [show isK b n 2 (.inr i) = decide (Kd b n i = 2) from rfl] at e2
    show ∃ m' v, _ ∧ _ ∧ RQ m' N b n (pst (sNew s q b n i)) ∧ ∀ x, sNew s q b n i = .inr x → v = x.2
    unfold sNew
    by_cases e : Kd b n i = 2
    · rw [if_pos e]
      rw [decide_eq_true e, tr_t] at e2
      have hv := h.v e
      have p1 := y259 (sa := sa) (sv := sv) (d := d + 1) hR hC hN
      have p2 := y260 (sa := sa) (sv := sv) (d := d + 1) hR hC hN
      rw [hv] at p1 p2
      by_cases t : pnm_ s q (Vl b n i) < cN s 0 ∨ wnm_ s q (Vl b n i) < cN s 1
      · rw [if_pos t]
        obtain ⟨m', g1, g2, g3⟩ := y234 (sa := sa) (sv := sv) (d := d + 1) h 4 (by decide) (by decide) (fun z => by omega)
        have e3 := y235 (sa := sa) (sv := sv) (d := d + 1) g3
        rw [gs_l, tr_f] at e3
        refine ⟨m', gl_ m' (N + 243) 14, ?_, g2, g3, fun x hx => by cases hx⟩
        have run : r262 sa sv (d + 2) 42 [some (.ref (N + 243)), none, none] [] m = some (.inl (some (.long (gl_ m' (N + 243) 14))), m') := by
          rw [b262_42]
          simp (disch := omega) only [gq_true, gb_true, gb_false, true_and, and_true, eq_self, not_false_eq_true, not_true_eq_false, true_or, or_true, false_or, or_false, false_and, and_false, c0_v, ci_v, cl_v, cf_v, pk_mul, nI_add, nI_clamp, nI_lt0, nI_0le, nI_eq0, nI_lt0r, nI_ltE, nI_leE, nI_eqE, nI_m1, in_t, ba0, ba1, Nat.one_ne_zero, Nat.reduceEqDiff, Nat.reduceLeDiff, Nat.add_eq_zero_iff, xk243 h.1, g1, xk243 g3.1, e3]
        rw [c262, b262_0]
        simp (disch := omega) only [gq_true, gb_true, gb_false, true_and, and_true, eq_self, not_false_eq_true, not_true_eq_false, true_or, or_true, false_or, or_false, false_and, and_false, c0_v, ci_v, cl_v, cf_v, pk_mul, nI_add, nI_clamp, nI_lt0, nI_0le, nI_eq0, nI_lt0r, nI_ltE, nI_leE, nI_eqE, nI_m1, in_t, ba0, ba1, Nat.one_ne_zero, Nat.reduceEqDiff, Nat.reduceLeDiff, Nat.add_eq_zero_iff, xk243 h.1, e1, e2, b262_19, p1, p2]
        rw [ix_m1 (by omega), ix_m1 (by omega), run]
        by_cases t1 : cN s 0 ≤ pnm_ s q (Vl b n i)
        · rw [gb_pos t1, gb_neg (by omega)]
        · rw [gb_neg t1]
      · rw [if_neg t]
        obtain ⟨m', g1, g2, g3⟩ := y233n (sa := sa) (sv := sv) (d := d) h
        refine ⟨m', Vl b n i, ?_, g2, g3, fun x hx => by cases hx; rfl⟩
        rw [c262, b262_0]
        simp (disch := omega) only [gq_true, gb_true, gb_false, true_and, and_true, eq_self, not_false_eq_true, not_true_eq_false, true_or, or_true, false_or, or_false, false_and, and_false, c0_v, ci_v, cl_v, cf_v, pk_mul, nI_add, nI_clamp, nI_lt0, nI_0le, nI_eq0, nI_lt0r, nI_ltE, nI_leE, nI_eqE, nI_m1, in_t, ba0, ba1, Nat.one_ne_zero, Nat.reduceEqDiff, Nat.reduceLeDiff, Nat.add_eq_zero_iff, xk243 h.1, e1, e2, b262_19, p1, p2, g1, hv]
        rw [ix_m1 (by omega), ix_m1 (by omega), gb_pos (by omega), gb_pos (by omega)]
    · rw [if_neg e]
      rw [decide_eq_false e, tr_f] at e2
      obtain ⟨m', g1, g2, g3⟩ := y234 (sa := sa) (sv := sv) (d := d + 1) h 1 (by decide) (by decide) (fun _ => rfl)
      have e3 := y235 (sa := sa) (sv := sv) (d := d + 1) g3
      rw [gs_l, tr_f] at e3
      refine ⟨m', gl_ m' (N + 243) 14, ?_, g2, g3, fun x hx => by cases hx⟩
      rw [c262, b262_0]
      simp (disch := omega) only [gq_true, gb_true, gb_false, true_and, and_true, eq_self, not_false_eq_true, not_true_eq_false, true_or, or_true, false_or, or_false, false_and, and_false, c0_v, ci_v, cl_v, cf_v, pk_mul, nI_add, nI_clamp, nI_lt0, nI_0le, nI_eq0, nI_lt0r, nI_ltE, nI_leE, nI_eqE, nI_m1, in_t, ba0, ba1, Nat.one_ne_zero, Nat.reduceEqDiff, Nat.reduceLeDiff, Nat.add_eq_zero_iff, xk243 h.1, e1, e2, g1, b262_19, xk243 g3.1, e3]
theorem y263 (h : RQ m N b n σ) (hR : RS m N s q) (hC : WC s) (hN : WN s q) : ∃ m' v, am_ca sa sv (d + 3) 263 [.ref (N + 243)] m = some (.inl (some (.int (v))), m') ∧ Fr (RH N) m m' ∧ RQ m' N b n (pst (eb σ (sPay s q b n))) ∧ ∀ x, eb σ (sPay s q b n) = .inr x → v = nI x.2 := by
  have hnp := isN_lt (wc_np hC) (by decide)
  have e1 := y235 (sa := sa) (sv := sv) (d := d + 1) h
  have e2 := y242 (sa := sa) (sv := sv) (d := d) h
  have p1 := y259 (sa := sa) (sv := sv) (d := d + 1) hR hC hN
  cases σ with
  | inl e =>
    refine ⟨m, ix_ (pnm_ s q (gl_ m (N + 243) 14)) (cN s 0), ?_, Fr.refl _ _, h, fun x hx => by cases hx⟩
    rw [gs_l, tr_f] at e1
    rw [c263, b263_0]
    simp (disch := omega) only [gq_true, gb_true, gb_false, true_and, and_true, eq_self, not_false_eq_true, not_true_eq_false, true_or, or_true, false_or, or_false, false_and, and_false, c0_v, ci_v, cl_v, cf_v, pk_mul, nI_add, nI_clamp, nI_lt0, nI_0le, nI_eq0, nI_lt0r, nI_ltE, nI_leE, nI_eqE, nI_m1, in_t, ba0, ba1, Nat.one_ne_zero, Nat.reduceEqDiff, Nat.reduceLeDiff, Nat.add_eq_zero_iff, xk243 h.1, e1, b263_19, p1]
  | inr i =>
    rw [gs_r, tr_t] at e1
    rw [show isK b n 2 (.inr i) = decide (Kd b n i = 2) from rfl] at e2
    show ∃ m' v, _ ∧ _ ∧ RQ m' N b n (pst (sPay s q b n i)) ∧ ∀ x, sPay s q b n i = .inr x → v = nI x.2
    unfold sPay
    by_cases e : Kd b n i = 2
    · rw [if_pos e]
      rw [decide_eq_true e, tr_t] at e2
      rw [h.v e] at p1
      by_cases t : pnm_ s q (Vl b n i) < cN s 0
      · rw [if_pos t]
        obtain ⟨m', g1, g2, g3⟩ := y233n (sa := sa) (sv := sv) (d := d) h
        refine ⟨m', nI (pnm_ s q (Vl b n i)), ?_, g2, g3, fun x hx => by cases hx; rfl⟩
        rw [c263, b263_0]
        simp (disch := omega) only [gq_true, gb_true, gb_false, true_and, and_true, eq_self, not_false_eq_true, not_true_eq_false, true_or, or_true, false_or, or_false, false_and, and_false, c0_v, ci_v, cl_v, cf_v, pk_mul, nI_add, nI_clamp, nI_lt0, nI_0le, nI_eq0, nI_lt0r, nI_ltE, nI_leE, nI_eqE, nI_m1, in_t, ba0, ba1, Nat.one_ne_zero, Nat.reduceEqDiff, Nat.reduceLeDiff, Nat.add_eq_zero_iff, xk243 h.1, e1, e2, b263_19, p1, g1]
        rw [ix_m1 (by omega), gb_neg (by omega), ix_s t]
      · rw [if_neg t]
        obtain ⟨m', g1, g2, g3⟩ := y234 (sa := sa) (sv := sv) (d := d + 1) h 3 (by decide) (by decide) (fun z => by omega)
        have e3 := y235 (sa := sa) (sv := sv) (d := d + 1) g3
        rw [gs_l, tr_f] at e3
        refine ⟨m', -1, ?_, g2, g3, fun x hx => by cases hx⟩
        rw [c263, b263_0]
        simp (disch := omega) only [gq_true, gb_true, gb_false, true_and, and_true, eq_self, not_false_eq_true, not_true_eq_false, true_or, or_true, false_or, or_false, false_and, and_false, c0_v, ci_v, cl_v, cf_v, pk_mul, nI_add, nI_clamp, nI_lt0, nI_0le, nI_eq0, nI_lt0r, nI_ltE, nI_leE, nI_eqE, nI_m1, in_t, ba0, ba1, Nat.one_ne_zero, Nat.reduceEqDiff, Nat.reduceLeDiff, Nat.add_eq_zero_iff, xk243 h.1, e1, e2, b263_19, p1, g1, xk243 g3.1, e3]
        rw [ix_m1 (by omega), gb_pos (by omega), ix_n t]
    · rw [if_neg e]
      rw [decide_eq_false e, tr_f] at e2
      obtain ⟨m', g1, g2, g3⟩ := y234 (sa := sa) (sv := sv) (d := d + 1) h 1 (by decide) (by decide) (fun _ => rfl)
      have e3 := y235 (sa := sa) (sv := sv) (d := d + 1) g3
      have p3 := y259 (sa := sa) (sv := sv) (d := d + 1) (hR.h g2) hC hN
      rw [gs_l, tr_f] at e3
      refine ⟨m', ix_ (pnm_ s q (gl_ m' (N + 243) 14)) (cN s 0), ?_, g2, g3, fun x hx => by cases hx⟩
      rw [c263, b263_0]
      simp (disch := omega) only [gq_true, gb_true, gb_false, true_and, and_true, eq_self, not_false_eq_true, not_true_eq_false, true_or, or_true, false_or, or_false, false_and, and_false, c0_v, ci_v, cl_v, cf_v, pk_mul, nI_add, nI_clamp, nI_lt0, nI_0le, nI_eq0, nI_lt0r, nI_ltE, nI_leE, nI_eqE, nI_m1, in_t, ba0, ba1, Nat.one_ne_zero, Nat.reduceEqDiff, Nat.reduceLeDiff, Nat.add_eq_zero_iff, xk243 h.1, e1, e2, g1, b263_19, xk243 g3.1, p3, e3]
end D80
