/-! the class reads its office: the catalogue -/
def ix_ (j n : Nat) : Int32 := if j < n then nI j else -1
def pnm_ (s : Nat → Int32) (q : Nat → Int64) (x : Int64) : Nat := fst_ (fun p => decide (q (462 + p) = x)) (cN s 0) 0
def wnm_ (s : Nat → Int32) (q : Nat → Int64) (x : Int64) : Nat := fst_ (fun p => decide (q (472 + p) = x)) (cN s 1) 0
/-- the split of a work that is in force on a day -/
def spl_ (s : Nat → Int32) (w day : Nat) : Nat := lst_ (fun k => decide (cN s (19 + 48 * w + k) ≤ day)) (cN s (18 + 48 * w))
theorem fst_s {p : Nat → Bool} {n i : Nat} (h : p i = true) : fst_ p (n + 1) i = i := by unfold fst_; rw [h]; rfl
theorem fst_n {p : Nat → Bool} {n i : Nat} (h : p i = false) : fst_ p (n + 1) i = fst_ p n (i + 1) := by rw [fst_, h]; rfl
theorem lst_s {p : Nat → Bool} {n : Nat} (h : p n = true) : lst_ p (n + 1) = n := by unfold lst_; rw [h]; rfl
theorem lst_n {p : Nat → Bool} {n : Nat} (h : p n = false) : lst_ p (n + 1) = lst_ p n := by rw [lst_, h]; rfl
theorem lst_lt {p : Nat → Bool} : ∀ {n : Nat}, 0 < n → lst_ p n < n
  | n + 1, _ => by
    cases h : p n with
    | true => rw [lst_s h]; omega
    | false =>
      rw [lst_n h]
      cases n with
      | zero => exact Nat.zero_lt_one
      | succ n => exact Nat.lt_succ_of_lt (lst_lt (Nat.succ_pos n))
section R42
variable {sa sv d o : Nat} {m : am_M} {s : Nat → Int32} {q : Nat → Int64}
theorem x3 (hO : OS m o) (hV : OV m o s q) (hW : WC s) (i : Nat) (hi : i < 2 ^ 31) : am_ca sa sv (d + 1) 3 [.ref (o + 1), .int (nI i)] m = some (.inl (some (.int (nI (if i < cN s 0 then 1 else 0)))), m) := by
  obtain ⟨e0, b0⟩ := (wc_np hW).c (by decide)
  rw [c3, b3_0]
  simp (disch := omega) only [gq_true, gb_true, gb_false, true_and, and_true, eq_self, not_false_eq_true, not_true_eq_false, true_or, or_true, false_or, or_false, false_and, and_false, c0_v, ci_v, cl_v, cf_v, pk_mul, nI_add, nI_clamp, nI_lt0, nI_0le, nI_eq0, nI_lt0r, nI_ltE, nI_leE, nI_eqE, nI_m1, in_t, ba0, ba1, Nat.one_ne_zero, Nat.reduceEqDiff, Nat.reduceLeDiff, Nat.add_eq_zero_iff, ok1 hO, ov_np hV]
  rw [e0]
  simp (disch := omega) only [gq_true, gb_true, gb_false, true_and, and_true, eq_self, not_false_eq_true, not_true_eq_false, true_or, or_true, false_or, or_false, false_and, and_false, c0_v, ci_v, cl_v, cf_v, pk_mul, nI_add, nI_clamp, nI_lt0, nI_0le, nI_eq0, nI_lt0r, nI_ltE, nI_leE, nI_eqE, nI_m1, in_t, ba0, ba1, Nat.one_ne_zero, Nat.reduceEqDiff, Nat.reduceLeDiff, Nat.add_eq_zero_iff]
  (simp only [gb_ite]; (repeat' split); all_goals first | rfl | (exfalso; omega))
theorem x4 (hO : OS m o) (hV : OV m o s q) (hW : WC s) (i : Nat) (hi : i < 2 ^ 31) : am_ca sa sv (d + 1) 4 [.ref (o + 1), .int (nI i)] m = some (.inl (some (.int (nI (if i < cN s 1 then 1 else 0)))), m) := by
  obtain ⟨e0, b0⟩ := (wc_nw hW).c (by decide)
  rw [c4, b4_0]
  simp (disch := omega) only [gq_true, gb_true, gb_false, true_and, and_true, eq_self, not_false_eq_true, not_true_eq_false, true_or, or_true, false_or, or_false, false_and, and_false, c0_v, ci_v, cl_v, cf_v, pk_mul, nI_add, nI_clamp, nI_lt0, nI_0le, nI_eq0, nI_lt0r, nI_ltE, nI_leE, nI_eqE, nI_m1, in_t, ba0, ba1, Nat.one_ne_zero, Nat.reduceEqDiff, Nat.reduceLeDiff, Nat.add_eq_zero_iff, ok1 hO, ov_nw hV]
  rw [e0]
  simp (disch := omega) only [gq_true, gb_true, gb_false, true_and, and_true, eq_self, not_false_eq_true, not_true_eq_false, true_or, or_true, false_or, or_false, false_and, and_false, c0_v, ci_v, cl_v, cf_v, pk_mul, nI_add, nI_clamp, nI_lt0, nI_0le, nI_eq0, nI_lt0r, nI_ltE, nI_leE, nI_eqE, nI_m1, in_t, ba0, ba1, Nat.one_ne_zero, Nat.reduceEqDiff, Nat.reduceLeDiff, Nat.add_eq_zero_iff]
  (simp only [gb_ite]; (repeat' split); all_goals first | rfl | (exfalso; omega))
theorem x23 (hO : OS m o) (hV : OV m o s q) (hW : WC s) (w : Nat) (hw : w < 2 ^ 31) : am_ca sa sv (d + 2) 23 [.ref (o + 1), .int (nI w)] m = some (.inl (some (.int (if w < cN s 1 then s (18 + 48 * w) else nI 0))), m) := by
  obtain ⟨e0, b0⟩ := (wc_nw hW).c (by decide)
  rw [c23, b23_0, x4 hO hV hW w hw]
  by_cases h : w < cN s 1
  · rw [if_pos h, if_pos h]
    simp (disch := omega) only [gq_true, gb_true, gb_false, true_and, and_true, eq_self, not_false_eq_true, not_true_eq_false, true_or, or_true, false_or, or_false, false_and, and_false, c0_v, ci_v, cl_v, cf_v, pk_mul, nI_add, nI_clamp, nI_lt0, nI_0le, nI_eq0, nI_lt0r, nI_ltE, nI_leE, nI_eqE, nI_m1, in_t, ba0, ba1, Nat.one_ne_zero, Nat.reduceEqDiff, Nat.reduceLeDiff, Nat.add_eq_zero_iff, ok1 hO, ok6 hO, or1_6 hO, ov_sp hV w (by omega)]
  · rw [if_neg h, if_neg h]
    simp (disch := omega) only [gq_true, gb_true, gb_false, true_and, and_true, eq_self, not_false_eq_true, not_true_eq_false, true_or, or_true, false_or, or_false, false_and, and_false, c0_v, ci_v, cl_v, cf_v, pk_mul, nI_add, nI_clamp, nI_lt0, nI_0le, nI_eq0, nI_lt0r, nI_ltE, nI_leE, nI_eqE, nI_m1, in_t, ba0, ba1, Nat.one_ne_zero, Nat.reduceEqDiff, Nat.reduceLeDiff, Nat.add_eq_zero_iff, ok1 hO]
theorem x16 (hO : OS m o) (hV : OV m o s q) (hW : WC s) (w : Nat) (hw : w < 2 ^ 31) : am_ca sa sv (d + 2) 16 [.ref (o + 1), .int (nI w)] m = some (.inl (some (.int (if w < cN s 1 then s (59 + 48 * w) else nI 0))), m) := by
  obtain ⟨e0, b0⟩ := (wc_nw hW).c (by decide)
  rw [c16, b16_0, x4 hO hV hW w hw]
  by_cases h : w < cN s 1
  · rw [if_pos h, if_pos h]
    simp (disch := omega) only [gq_true, gb_true, gb_false, true_and, and_true, eq_self, not_false_eq_true, not_true_eq_false, true_or, or_true, false_or, or_false, false_and, and_false, c0_v, ci_v, cl_v, cf_v, pk_mul, nI_add, nI_clamp, nI_lt0, nI_0le, nI_eq0, nI_lt0r, nI_ltE, nI_leE, nI_eqE, nI_m1, in_t, ba0, ba1, Nat.one_ne_zero, Nat.reduceEqDiff, Nat.reduceLeDiff, Nat.add_eq_zero_iff, ok1 hO, ok5 hO, or1_5 hO, ov_so hV w (by omega)]
  · rw [if_neg h, if_neg h]
    simp (disch := omega) only [gq_true, gb_true, gb_false, true_and, and_true, eq_self, not_false_eq_true, not_true_eq_false, true_or, or_true, false_or, or_false, false_and, and_false, c0_v, ci_v, cl_v, cf_v, pk_mul, nI_add, nI_clamp, nI_lt0, nI_0le, nI_eq0, nI_lt0r, nI_ltE, nI_leE, nI_eqE, nI_m1, in_t, ba0, ba1, Nat.one_ne_zero, Nat.reduceEqDiff, Nat.reduceLeDiff, Nat.add_eq_zero_iff, ok1 hO]
theorem x14 (hO : OS m o) (hV : OV m o s q) (hW : WC s) (p : Nat) (hp : p < 2 ^ 31) : am_ca sa sv (d + 2) 14 [.ref (o + 1), .int (nI p)] m = some (.inl (some (.int (if p < cN s 0 then s (8 + p) else nI 0))), m) := by
  obtain ⟨e0, b0⟩ := (wc_np hW).c (by decide)
  rw [c14, b14_0, x3 hO hV hW p hp]
  by_cases h : p < cN s 0
  · rw [if_pos h, if_pos h]
    simp (disch := omega) only [gq_true, gb_true, gb_false, true_and, and_true, eq_self, not_false_eq_true, not_true_eq_false, true_or, or_true, false_or, or_false, false_and, and_false, c0_v, ci_v, cl_v, cf_v, pk_mul, nI_add, nI_clamp, nI_lt0, nI_0le, nI_eq0, nI_lt0r, nI_ltE, nI_leE, nI_eqE, nI_m1, in_t, ba0, ba1, Nat.one_ne_zero, Nat.reduceEqDiff, Nat.reduceLeDiff, Nat.add_eq_zero_iff, ok1 hO, ok3 hO, or1_3 hO, ov_le hV p (by omega)]
  · rw [if_neg h, if_neg h]
    simp (disch := omega) only [gq_true, gb_true, gb_false, true_and, and_true, eq_self, not_false_eq_true, not_true_eq_false, true_or, or_true, false_or, or_false, false_and, and_false, c0_v, ci_v, cl_v, cf_v, pk_mul, nI_add, nI_clamp, nI_lt0, nI_0le, nI_eq0, nI_lt0r, nI_ltE, nI_leE, nI_eqE, nI_m1, in_t, ba0, ba1, Nat.one_ne_zero, Nat.reduceEqDiff, Nat.reduceLeDiff, Nat.add_eq_zero_iff, ok1 hO]
theorem x5 (hO : OS m o) (hV : OV m o s q) (hW : WC s) (x : Int64) : am_ca sa sv (d + 1) 5 [.ref (o + 1), .long x] m = some (.inl (some (.int (ix_ (pnm_ s q x) (cN s 0)))), m) := by
  obtain ⟨e0, b0⟩ := (wc_np hW).c (by decide)
  have step : ∀ n i, i + n = cN s 0 → r5 sa sv d 2 [some (.ref (o + 1)), some (.long x), none, some (.int (nI i))] [] m = some (.inl (some (.int (ix_ (fst_ (fun p => decide (q (462 + p) = x)) n i) (cN s 0)))), m) := by
    intro n
    induction n with
    | zero =>
      intro i hi
      rw [b5_2]
      simp (disch := omega) only [gq_true, gb_true, gb_false, true_and, and_true, eq_self, not_false_eq_true, not_true_eq_false, true_or, or_true, false_or, or_false, false_and, and_false, c0_v, ci_v, cl_v, cf_v, pk_mul, nI_add, nI_clamp, nI_lt0, nI_0le, nI_eq0, nI_lt0r, nI_ltE, nI_leE, nI_eqE, nI_m1, in_t, ba0, ba1, Nat.one_ne_zero, Nat.reduceEqDiff, Nat.reduceLeDiff, Nat.add_eq_zero_iff, ok1 hO, ov_np hV]
      rw [e0]
      simp (disch := omega) only [gq_true, gb_true, gb_false, true_and, and_true, eq_self, not_false_eq_true, not_true_eq_false, true_or, or_true, false_or, or_false, false_and, and_false, c0_v, ci_v, cl_v, cf_v, pk_mul, nI_add, nI_clamp, nI_lt0, nI_0le, nI_eq0, nI_lt0r, nI_ltE, nI_leE, nI_eqE, nI_m1, in_t, ba0, ba1, Nat.one_ne_zero, Nat.reduceEqDiff, Nat.reduceLeDiff, Nat.add_eq_zero_iff]
      rw [gb_pos (by omega), fst_, ix_, if_neg (by omega)]
    | succ n ih =>
      intro i hi
      rw [b5_2]
      simp (disch := omega) only [gq_true, gb_true, gb_false, true_and, and_true, eq_self, not_false_eq_true, not_true_eq_false, true_or, or_true, false_or, or_false, false_and, and_false, c0_v, ci_v, cl_v, cf_v, pk_mul, nI_add, nI_clamp, nI_lt0, nI_0le, nI_eq0, nI_lt0r, nI_ltE, nI_leE, nI_eqE, nI_m1, in_t, ba0, ba1, Nat.one_ne_zero, Nat.reduceEqDiff, Nat.reduceLeDiff, Nat.add_eq_zero_iff, ok1 hO, ok2 hO, or1_2 hO, ov_np hV, ov_pn hV i (by omega), lgc_eq]
      rw [e0]
      simp (disch := omega) only [gq_true, gb_true, gb_false, true_and, and_true, eq_self, not_false_eq_true, not_true_eq_false, true_or, or_true, false_or, or_false, false_and, and_false, c0_v, ci_v, cl_v, cf_v, pk_mul, nI_add, nI_clamp, nI_lt0, nI_0le, nI_eq0, nI_lt0r, nI_ltE, nI_leE, nI_eqE, nI_m1, in_t, ba0, ba1, Nat.one_ne_zero, Nat.reduceEqDiff, Nat.reduceLeDiff, Nat.add_eq_zero_iff]
      rw [gb_neg (by omega), gb_neg (by omega)]
      by_cases h : q (462 + i) = x
      · rw [gb_pos h, fst_s (decide_eq_true h), ix_, if_pos (by omega)]
      · rw [gb_neg h, fst_n (decide_eq_false h)]
        exact ih (i + 1) (by omega)
  rw [c5, b5_0]
  exact step _ 0 (Nat.zero_add _)
theorem x6 (hO : OS m o) (hV : OV m o s q) (hW : WC s) (x : Int64) : am_ca sa sv (d + 1) 6 [.ref (o + 1), .long x] m = some (.inl (some (.int (ix_ (wnm_ s q x) (cN s 1)))), m) := by
  obtain ⟨e0, b0⟩ := (wc_nw hW).c (by decide)
  have step : ∀ n i, i + n = cN s 1 → r6 sa sv d 2 [some (.ref (o + 1)), some (.long x), none, some (.int (nI i))] [] m = some (.inl (some (.int (ix_ (fst_ (fun p => decide (q (472 + p) = x)) n i) (cN s 1)))), m) := by
    intro n
    induction n with
    | zero =>
      intro i hi
      rw [b6_2]
      simp (disch := omega) only [gq_true, gb_true, gb_false, true_and, and_true, eq_self, not_false_eq_true, not_true_eq_false, true_or, or_true, false_or, or_false, false_and, and_false, c0_v, ci_v, cl_v, cf_v, pk_mul, nI_add, nI_clamp, nI_lt0, nI_0le, nI_eq0, nI_lt0r, nI_ltE, nI_leE, nI_eqE, nI_m1, in_t, ba0, ba1, Nat.one_ne_zero, Nat.reduceEqDiff, Nat.reduceLeDiff, Nat.add_eq_zero_iff, ok1 hO, ov_nw hV]
      rw [e0]
      simp (disch := omega) only [gq_true, gb_true, gb_false, true_and, and_true, eq_self, not_false_eq_true, not_true_eq_false, true_or, or_true, false_or, or_false, false_and, and_false, c0_v, ci_v, cl_v, cf_v, pk_mul, nI_add, nI_clamp, nI_lt0, nI_0le, nI_eq0, nI_lt0r, nI_ltE, nI_leE, nI_eqE, nI_m1, in_t, ba0, ba1, Nat.one_ne_zero, Nat.reduceEqDiff, Nat.reduceLeDiff, Nat.add_eq_zero_iff]
      rw [gb_pos (by omega), fst_, ix_, if_neg (by omega)]
    | succ n ih =>
      intro i hi
      rw [b6_2]
      simp (disch := omega) only [gq_true, gb_true, gb_false, true_and, and_true, eq_self, not_false_eq_true, not_true_eq_false, true_or, or_true, false_or, or_false, false_and, and_false, c0_v, ci_v, cl_v, cf_v, pk_mul, nI_add, nI_clamp, nI_lt0, nI_0le, nI_eq0, nI_lt0r, nI_ltE, nI_leE, nI_eqE, nI_m1, in_t, ba0, ba1, Nat.one_ne_zero, Nat.reduceEqDiff, Nat.reduceLeDiff, Nat.add_eq_zero_iff, ok1 hO, ok4 hO, or1_4 hO, ov_nw hV, ov_wn hV i (by omega), lgc_eq]
      rw [e0]
      simp (disch := omega) only [gq_true, gb_true, gb_false, true_and, and_true, eq_self, not_false_eq_true, not_true_eq_false, true_or, or_true, false_or, or_false, false_and, and_false, c0_v, ci_v, cl_v, cf_v, pk_mul, nI_add, nI_clamp, nI_lt0, nI_0le, nI_eq0, nI_lt0r, nI_ltE, nI_leE, nI_eqE, nI_m1, in_t, ba0, ba1, Nat.one_ne_zero, Nat.reduceEqDiff, Nat.reduceLeDiff, Nat.add_eq_zero_iff]
      rw [gb_neg (by omega), gb_neg (by omega)]
      by_cases h : q (472 + i) = x
      · rw [gb_pos h, fst_s (decide_eq_true h), ix_, if_pos (by omega)]
      · rw [gb_neg h, fst_n (decide_eq_false h)]
        exact ih (i + 1) (by omega)
  rw [c6, b6_0]
  exact step _ 0 (Nat.zero_add _)
theorem ix_m1 {j n : Nat} (hn : n < 2 ^ 31) : (ix_ j n = -1) = (n ≤ j) := propext (by
  unfold ix_
  by_cases h : j < n
  · rw [if_pos h, nI_m1 (by omega)]
    exact ⟨False.elim, fun z => by omega⟩
  · rw [if_neg h]
    exact ⟨fun _ => by omega, fun _ => rfl⟩)
theorem x7 (hO : OS m o) (hV : OV m o s q) (hW : WC s) (x : Int64) : am_ca sa sv (d + 2) 7 [.ref (o + 1), .long x] m = some (.inl (some (.int (nI (if pnm_ s q x < cN s 0 ∨ wnm_ s q x < cN s 1 then 1 else 0)))), m) := by
  obtain ⟨e0, b0⟩ := (wc_np hW).c (by decide)
  obtain ⟨e1, b1⟩ := (wc_nw hW).c (by decide)
  rw [c7, b7_0, x5 hO hV hW x]
  simp (disch := omega) only [gq_true, gb_true, gb_false, true_and, and_true, eq_self, not_false_eq_true, not_true_eq_false, true_or, or_true, false_or, or_false, false_and, and_false, c0_v, ci_v, cl_v, cf_v, pk_mul, nI_add, nI_clamp, nI_lt0, nI_0le, nI_eq0, nI_lt0r, nI_ltE, nI_leE, nI_eqE, nI_m1, in_t, ba0, ba1, Nat.one_ne_zero, Nat.reduceEqDiff, Nat.reduceLeDiff, Nat.add_eq_zero_iff, ok1 hO]
  rw [ix_m1 (by omega)]
  by_cases h : pnm_ s q x < cN s 0
  · rw [gb_neg (by omega), if_pos (Or.inl h)]
  · rw [gb_pos (by omega), x6 hO hV hW x]
    simp (disch := omega) only [gq_true, gb_true, gb_false, true_and, and_true, eq_self, not_false_eq_true, not_true_eq_false, true_or, or_true, false_or, or_false, false_and, and_false, c0_v, ci_v, cl_v, cf_v, pk_mul, nI_add, nI_clamp, nI_lt0, nI_0le, nI_eq0, nI_lt0r, nI_ltE, nI_leE, nI_eqE, nI_m1, in_t, ba0, ba1, Nat.one_ne_zero, Nat.reduceEqDiff, Nat.reduceLeDiff, Nat.add_eq_zero_iff]
    rw [ix_m1 (by omega)]
    by_cases h1 : wnm_ s q x < cN s 1
    · rw [gb_neg (by omega), if_pos (Or.inr h1)]
    · rw [gb_pos (by omega), if_neg (by omega)]
theorem x17 (hO : OS m o) (hV : OV m o s q) (w i : Nat) (hw : w < 12) (hi : i < 3) : am_ca sa sv (d + 2) 17 [.ref (o + 1), .int (nI w), .int (nI i)] m = some (.inl (some (.int (s (60 + 48 * w + i)))), m) := by
  rw [c17, b17_0]
  simp (disch := omega) only [gq_true, gb_true, gb_false, true_and, and_true, eq_self, not_false_eq_true, not_true_eq_false, true_or, or_true, false_or, or_false, false_and, and_false, c0_v, ci_v, cl_v, cf_v, pk_mul, nI_add, nI_clamp, nI_lt0, nI_0le, nI_eq0, nI_lt0r, nI_ltE, nI_leE, nI_eqE, nI_m1, in_t, ba0, ba1, Nat.one_ne_zero, Nat.reduceEqDiff, Nat.reduceLeDiff, Nat.add_eq_zero_iff, ok1 hO, or1_7 hO, ok7 hO]
  rw [show (nI 0) = nI 0 from rfl, tb_at (ot7 hO) (by omega) (w * 3 + i) 0 (by omega)]
  simp (disch := omega) only [gq_true, gb_true, gb_false, true_and, and_true, eq_self, not_false_eq_true, not_true_eq_false, true_or, or_true, false_or, or_false, false_and, and_false, c0_v, ci_v, cl_v, cf_v, pk_mul, nI_add, nI_clamp, nI_lt0, nI_0le, nI_eq0, nI_lt0r, nI_ltE, nI_leE, nI_eqE, nI_m1, in_t, ba0, ba1, Nat.one_ne_zero, Nat.reduceEqDiff, Nat.reduceLeDiff, Nat.add_eq_zero_iff]
  rw [show o + 7 + 1 = o + 8 from rfl, show (w * 3 + i) * 2 + 0 = (w * 3 + i) * 2 from rfl, ov_sow hV w i hw hi]
end R42
