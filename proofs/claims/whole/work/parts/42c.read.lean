/-! the class reads its office: owners, a payee's percentage, roots, offspring -/
theorem dm_s (n : Nat) : nI (n + 1) - nI 1 = nI n := pk_sub (Nat.succ_le_succ (Nat.zero_le n))
theorem dm_m (x : Int32) : x + (-1 : Int32) = x - nI 1 := by rw [show (-1 : Int32) = -(nI 1) by decide, Int32.sub_eq_add_neg]
theorem dm_0 : (nI 0 - nI 1 < 0) = True := eq_true (by decide)
theorem nI_n0 {n : Nat} (h : n < 2 ^ 31) : (nI n - nI 1 < 0) = (n = 0) := by
  cases n with
  | zero => rw [dm_0]; exact (eq_self 0).symm ▸ rfl
  | succ n => rw [dm_s, nI_lt0 (by omega)]; exact (eq_false (Nat.succ_ne_zero n)).symm
/-- the percentage of a payee in a split -/
def shj_ (s : Nat → Int32) (w k p : Nat) : Nat := fst_ (fun j => decide (cN s (27 + 48 * w + 4 * k + j) = p)) (cN s (23 + 48 * w + k)) 0
def shr_ (s : Nat → Int32) (w k p : Nat) : Int32 := if shj_ s w k p < cN s (23 + 48 * w + k) then s (43 + 48 * w + 4 * k + shj_ s w k p) else nI 0
/-- the sources of a work, as a set; all its roots -/
def so_ (s : Nat → Int32) (w : Nat) : Nat := orF_ (fun i => cN s (60 + 48 * w + i)) (cN s (59 + 48 * w))
def rt_ (s : Nat → Int32) : Nat → Nat → Nat
  | 0, x => x
  | v + 1, x => rt_ s v (bif x.testBit v then x ||| so_ s v else x)
def rts_ (s : Nat → Int32) (w : Nat) : Nat := rt_ s w (so_ s w)
theorem isN_lt {s : Nat → Int32} {k n : Nat} (h : isN (s k) n) (hn : n ≤ 2 ^ 31) : cN s k < n := (h.c hn).2
theorem so_lt {s : Nat → Int32} (hC : WC s) (hW : WW s) {w : Nat} (hw : w < cN s 1) : so_ s w < 2 ^ w := orF_lt fun j hj => isN_lt (ww_ow hW w j hw hj) (by have := isN_lt (wc_nw hC) (by decide); omega)
theorem so_12 {s : Nat → Int32} (hC : WC s) (hW : WW s) {w : Nat} (hw : w < cN s 1) : so_ s w < 2 ^ 12 := Nat.lt_of_lt_of_le (so_lt hC hW hw) (Nat.pow_le_pow_right (by decide) (by have := isN_lt (wc_nw hC) (by decide); omega))
theorem rt_12 {s : Nat → Int32} (hC : WC s) (hW : WW s) : ∀ v x, v ≤ cN s 1 → x < 2 ^ 12 → rt_ s v x < 2 ^ 12 := by
  intro v
  induction v with
  | zero => exact fun x _ h => h
  | succ v ih =>
    intro x hv h
    refine ih _ (by omega) ?_
    cases x.testBit v with
    | false => exact h
    | true => exact Nat.or_lt_two_pow h (so_12 hC hW (by omega))
section R42
variable {sa sv d o : Nat} {m : am_M} {s : Nat → Int32} {q : Nat → Int64}
theorem x30 (hO : OS m o) (hV : OV m o s q) (hC : WC s) (hW : WW s) (w day : Nat) (hw : w < cN s 1) (hd : day < 2 ^ 31) : am_ca sa sv (d + 4) 30 [.ref (o + 1), .int (nI w), .int (nI day)] m = some (.inl (some (.int (nI (orF_ (fun j => cN s (27 + 48 * w + 4 * spl_ s w day + j)) (cN s (23 + 48 * w + spl_ s w day)))))), m) := by
  obtain ⟨e0, b0⟩ := (wc_nw hC).c (by decide)
  obtain ⟨e3, b3⟩ := (wc_np hC).c (by decide)
  have hk := spl_lt hW w day hw
  have hk4 := isN_lt (ww_ns hW w hw).1 (by decide)
  obtain ⟨h1, b1⟩ := ww_nh hW w _ hw hk
  obtain ⟨e1, b2⟩ := h1.c (by decide)
  rw [c30, b30_0]
  simp (disch := omega) only [gq_true, gb_true, gb_false, true_and, and_true, eq_self, not_false_eq_true, not_true_eq_false, true_or, or_true, false_or, or_false, false_and, and_false, c0_v, ci_v, cl_v, cf_v, pk_mul, nI_add, nI_clamp, nI_lt0, nI_0le, nI_eq0, nI_lt0r, nI_ltE, nI_leE, nI_eqE, nI_m1, in_t, ba0, ba1, Nat.one_ne_zero, Nat.reduceEqDiff, Nat.reduceLeDiff, Nat.add_eq_zero_iff, ok1 hO]
  rw [x25 hO hV hC hW w day (by omega) hd, if_pos hw, ci_v]
  generalize spl_ s w day = k at *
  have H := lp_up (fun i => r30 sa sv (d + 3) 13 [some (.ref (o + 1)), some (.int (nI w)), some (.int (nI day)), some (.int (nI k)), some (.int (nI (orF_ (fun j => cN s (27 + 48 * w + 4 * k + j)) i))), some (.int (nI i))] [] m) (cN s (23 + 48 * w + k)) (fun i hi => by
    obtain ⟨e2, b2⟩ := (ww_hp hW w k i hw hk hi).c (by omega)
    show r30 sa sv (d + 3) 13 _ [] m = _
    rw [b30_13, x26 hO hV w k (by omega) (by omega), e1]
    simp (disch := omega) only [gq_true, gb_true, gb_false, true_and, and_true, eq_self, not_false_eq_true, not_true_eq_false, true_or, or_true, false_or, or_false, false_and, and_false, c0_v, ci_v, cl_v, cf_v, pk_mul, nI_add, nI_clamp, nI_lt0, nI_0le, nI_eq0, nI_lt0r, nI_ltE, nI_leE, nI_eqE, nI_m1, in_t, ba0, ba1, Nat.one_ne_zero, Nat.reduceEqDiff, Nat.reduceLeDiff, Nat.add_eq_zero_iff, ok1 hO]
    rw [gb_neg (by omega), x27 hO hV w k i (by omega) (by omega) (by omega), ci_v, e2, nI_sh1 _ (by omega), nI_or]
    rfl)
  refine H.trans ?_
  show r30 sa sv (d + 3) 13 _ [] m = _
  rw [b30_13, x26 hO hV w k (by omega) (by omega), e1]
  simp (disch := omega) only [gq_true, gb_true, gb_false, true_and, and_true, eq_self, not_false_eq_true, not_true_eq_false, true_or, or_true, false_or, or_false, false_and, and_false, c0_v, ci_v, cl_v, cf_v, pk_mul, nI_add, nI_clamp, nI_lt0, nI_0le, nI_eq0, nI_lt0r, nI_ltE, nI_leE, nI_eqE, nI_m1, in_t, ba0, ba1, Nat.one_ne_zero, Nat.reduceEqDiff, Nat.reduceLeDiff, Nat.add_eq_zero_iff, ok1 hO, Nat.le_refl]
theorem x29 (hO : OS m o) (hV : OV m o s q) (hC : WC s) (hW : WW s) (w k p : Nat) (hw : w < cN s 1) (hk : k < cN s (18 + 48 * w)) (hp : p < 2 ^ 31) : am_ca sa sv (d + 3) 29 [.ref (o + 1), .int (nI w), .int (nI k), .int (nI p)] m = some (.inl (some (.int (shr_ s w k p))), m) := by
  obtain ⟨e0, b0⟩ := (wc_nw hC).c (by decide)
  obtain ⟨e3, b3⟩ := (wc_np hC).c (by decide)
  have hk4 := isN_lt (ww_ns hW w hw).1 (by decide)
  obtain ⟨h1, b1⟩ := ww_nh hW w k hw hk
  obtain ⟨e1, b2⟩ := h1.c (by decide)
  have step : ∀ n i, i + n = cN s (23 + 48 * w + k) → r29 sa sv (d + 2) 3 [some (.ref (o + 1)), some (.int (nI w)), some (.int (nI k)), some (.int (nI p)), some (.int (nI i))] [] m = some (.inl (some (.int (if fst_ (fun j => decide (cN s (27 + 48 * w + 4 * k + j) = p)) n i < cN s (23 + 48 * w + k) then s (43 + 48 * w + 4 * k + fst_ (fun j => decide (cN s (27 + 48 * w + 4 * k + j) = p)) n i) else nI 0))), m) := by
    intro n
    induction n with
    | zero =>
      intro i hi
      rw [b29_3, x26 hO hV w k (by omega) (by omega), e1]
      simp (disch := omega) only [gq_true, gb_true, gb_false, true_and, and_true, eq_self, not_false_eq_true, not_true_eq_false, true_or, or_true, false_or, or_false, false_and, and_false, c0_v, ci_v, cl_v, cf_v, pk_mul, nI_add, nI_clamp, nI_lt0, nI_0le, nI_eq0, nI_lt0r, nI_ltE, nI_leE, nI_eqE, nI_m1, in_t, ba0, ba1, Nat.one_ne_zero, Nat.reduceEqDiff, Nat.reduceLeDiff, Nat.add_eq_zero_iff, ok1 hO]
      rw [gb_pos (by omega), fst_, if_neg (by omega)]
    | succ n ih =>
      intro i hi
      obtain ⟨e2, b2⟩ := (ww_hp hW w k i hw hk (by omega)).c (by omega)
      rw [b29_3, x26 hO hV w k (by omega) (by omega), e1]
      simp (disch := omega) only [gq_true, gb_true, gb_false, true_and, and_true, eq_self, not_false_eq_true, not_true_eq_false, true_or, or_true, false_or, or_false, false_and, and_false, c0_v, ci_v, cl_v, cf_v, pk_mul, nI_add, nI_clamp, nI_lt0, nI_0le, nI_eq0, nI_lt0r, nI_ltE, nI_leE, nI_eqE, nI_m1, in_t, ba0, ba1, Nat.one_ne_zero, Nat.reduceEqDiff, Nat.reduceLeDiff, Nat.add_eq_zero_iff, ok1 hO]
      rw [gb_neg (by omega), x27 hO hV w k i (by omega) (by omega) (by omega), ci_v, e2]
      simp (disch := omega) only [gq_true, gb_true, gb_false, true_and, and_true, eq_self, not_false_eq_true, not_true_eq_false, true_or, or_true, false_or, or_false, false_and, and_false, c0_v, ci_v, cl_v, cf_v, pk_mul, nI_add, nI_clamp, nI_lt0, nI_0le, nI_eq0, nI_lt0r, nI_ltE, nI_leE, nI_eqE, nI_m1, in_t, ba0, ba1, Nat.one_ne_zero, Nat.reduceEqDiff, Nat.reduceLeDiff, Nat.add_eq_zero_iff]
      by_cases h : cN s (27 + 48 * w + 4 * k + i) = p
      · rw [gb_pos h, x28 hO hV w k i (by omega) (by omega) (by omega), ci_v, fst_s (decide_eq_true h), if_pos (by omega), gq_pos (ok1 hO)]
      · rw [gb_neg h, fst_n (decide_eq_false h)]
        exact ih (i + 1) (by omega)
  rw [c29, b29_0]
  exact step _ 0 (Nat.zero_add _)
theorem x21 (hO : OS m o) (hV : OV m o s q) (hC : WC s) (hW : WW s) (w : Nat) (hw : w < cN s 1) : am_ca sa sv (d + 4) 21 [.ref (o + 1), .int (nI w)] m = some (.inl (some (.int (nI (rts_ s w)))), m) := by
  obtain ⟨e0, b0⟩ := (wc_nw hC).c (by decide)
  have step : ∀ v x, v ≤ w → x < 2 ^ 12 → r21 sa sv (d + 3) 10 [some (.ref (o + 1)), some (.int (nI w)), some (.int (nI x)), some (.int (nI v - nI 1))] [] m = some (.inl (some (.int (nI (rt_ s v x)))), m) := by
    intro v
    induction v with
    | zero =>
      intro x _ _
      rw [b21_10]
      simp (disch := omega) only [gq_true, gb_true, gb_false, true_and, and_true, eq_self, not_false_eq_true, not_true_eq_false, true_or, or_true, false_or, or_false, false_and, and_false, c0_v, ci_v, cl_v, cf_v, pk_mul, nI_add, nI_clamp, nI_lt0, nI_0le, nI_eq0, nI_lt0r, nI_ltE, nI_leE, nI_eqE, nI_m1, in_t, ba0, ba1, Nat.one_ne_zero, Nat.reduceEqDiff, Nat.reduceLeDiff, Nat.add_eq_zero_iff, dm_0]
      rfl
    | succ v ih =>
      intro x hv hx
      rw [b21_10, dm_s, nI_tb (by omega) (by omega), dm_m]
      simp (disch := omega) only [gq_true, gb_true, gb_false, true_and, and_true, eq_self, not_false_eq_true, not_true_eq_false, true_or, or_true, false_or, or_false, false_and, and_false, c0_v, ci_v, cl_v, cf_v, pk_mul, nI_add, nI_clamp, nI_lt0, nI_0le, nI_eq0, nI_lt0r, nI_ltE, nI_leE, nI_eqE, nI_m1, in_t, ba0, ba1, Nat.one_ne_zero, Nat.reduceEqDiff, Nat.reduceLeDiff, Nat.add_eq_zero_iff, ok1 hO]
      cases hb : x.testBit v with
      | false =>
        rw [rt_, hb]
        simp (disch := omega) only [gq_true, gb_true, gb_false, true_and, and_true, eq_self, not_false_eq_true, not_true_eq_false, true_or, or_true, false_or, or_false, false_and, and_false, c0_v, ci_v, cl_v, cf_v, pk_mul, nI_add, nI_clamp, nI_lt0, nI_0le, nI_eq0, nI_lt0r, nI_ltE, nI_leE, nI_eqE, nI_m1, in_t, ba0, ba1, Nat.one_ne_zero, Nat.reduceEqDiff, Nat.reduceLeDiff, Nat.add_eq_zero_iff, cond_false]
        exact ih x (by omega) hx
      | true =>
        rw [rt_, hb, x20 hO hV hC hW v (by omega)]
        simp (disch := omega) only [gq_true, gb_true, gb_false, true_and, and_true, eq_self, not_false_eq_true, not_true_eq_false, true_or, or_true, false_or, or_false, false_and, and_false, c0_v, ci_v, cl_v, cf_v, pk_mul, nI_add, nI_clamp, nI_lt0, nI_0le, nI_eq0, nI_lt0r, nI_ltE, nI_leE, nI_eqE, nI_m1, in_t, ba0, ba1, Nat.one_ne_zero, Nat.reduceEqDiff, Nat.reduceLeDiff, Nat.add_eq_zero_iff, cond_true]
        rw [nI_or]
        exact ih _ (by omega) (Nat.or_lt_two_pow hx (so_12 hC hW (by omega)))
  rw [c21, b21_0]
  simp (disch := omega) only [gq_true, gb_true, gb_false, true_and, and_true, eq_self, not_false_eq_true, not_true_eq_false, true_or, or_true, false_or, or_false, false_and, and_false, c0_v, ci_v, cl_v, cf_v, pk_mul, nI_add, nI_clamp, nI_lt0, nI_0le, nI_eq0, nI_lt0r, nI_ltE, nI_leE, nI_eqE, nI_m1, in_t, ba0, ba1, Nat.one_ne_zero, Nat.reduceEqDiff, Nat.reduceLeDiff, Nat.add_eq_zero_iff, ok1 hO]
  rw [x20 hO hV hC hW w hw, ci_v]
  exact step w _ (Nat.le_refl w) (so_12 hC hW hw)
/-- works of which parts come to a work: those behind it -/
def off_ (s : Nat → Int32) (w : Nat) : Nat → Nat
  | 0 => 0
  | v + 1 => bif decide (w < v) && (rts_ s v).testBit w then off_ s w v ||| 2 ^ v else off_ s w v
theorem x22 (hO : OS m o) (hV : OV m o s q) (hC : WC s) (hW : WW s) (w : Nat) (hw : w < cN s 1) : am_ca sa sv (d + 5) 22 [.ref (o + 1), .int (nI w)] m = some (.inl (some (.int (nI (off_ s w (cN s 1))))), m) := by
  obtain ⟨e0, b0⟩ := (wc_nw hC).c (by decide)
  have hz : ∀ v, v ≤ w + 1 → off_ s w v = 0 := by
    intro v
    induction v with
    | zero => exact fun _ => rfl
    | succ v ih => exact fun h => by rw [off_, decide_eq_false (by omega)]; exact ih (by omega)
  have H := lp_from (fun i => r22 sa sv (d + 4) 6 [some (.ref (o + 1)), some (.int (nI w)), some (.int (nI (off_ s w i))), some (.int (nI i))] [] m) (w + 1) (cN s 1) hw (fun i h1 hi => by
    show r22 sa sv (d + 4) 6 _ [] m = _
    have hr : rts_ s i < 2 ^ 12 := rt_12 hC hW i _ (by omega) (so_12 hC hW hi)
    rw [b22_6]
    simp (disch := omega) only [gq_true, gb_true, gb_false, true_and, and_true, eq_self, not_false_eq_true, not_true_eq_false, true_or, or_true, false_or, or_false, false_and, and_false, c0_v, ci_v, cl_v, cf_v, pk_mul, nI_add, nI_clamp, nI_lt0, nI_0le, nI_eq0, nI_lt0r, nI_ltE, nI_leE, nI_eqE, nI_m1, in_t, ba0, ba1, Nat.one_ne_zero, Nat.reduceEqDiff, Nat.reduceLeDiff, Nat.add_eq_zero_iff, ok1 hO, ov_nw hV]
    rw [e0]
    simp (disch := omega) only [gq_true, gb_true, gb_false, true_and, and_true, eq_self, not_false_eq_true, not_true_eq_false, true_or, or_true, false_or, or_false, false_and, and_false, c0_v, ci_v, cl_v, cf_v, pk_mul, nI_add, nI_clamp, nI_lt0, nI_0le, nI_eq0, nI_lt0r, nI_ltE, nI_leE, nI_eqE, nI_m1, in_t, ba0, ba1, Nat.one_ne_zero, Nat.reduceEqDiff, Nat.reduceLeDiff, Nat.add_eq_zero_iff]
    rw [gb_neg (by omega), x21 hO hV hC hW i hi, ci_v, nI_tb (by omega) (by omega), nI_sh1 _ (by omega), nI_or]
    cases hb : (rts_ s i).testBit w with
    | false =>
      have e9 : off_ s w (i + 1) = off_ s w i := by rw [off_, hb, Bool.and_false]; rfl
      rw [e9]
      simp (disch := omega) only [gq_true, gb_true, gb_false, true_and, and_true, eq_self, not_false_eq_true, not_true_eq_false, true_or, or_true, false_or, or_false, false_and, and_false, c0_v, ci_v, cl_v, cf_v, pk_mul, nI_add, nI_clamp, nI_lt0, nI_0le, nI_eq0, nI_lt0r, nI_ltE, nI_leE, nI_eqE, nI_m1, in_t, ba0, ba1, Nat.one_ne_zero, Nat.reduceEqDiff, Nat.reduceLeDiff, Nat.add_eq_zero_iff, cond_false]
    | true =>
      have e9 : off_ s w (i + 1) = off_ s w i ||| 2 ^ i := by rw [off_, hb, decide_eq_true (by omega : w < i)]; rfl
      rw [e9]
      simp (disch := omega) only [gq_true, gb_true, gb_false, true_and, and_true, eq_self, not_false_eq_true, not_true_eq_false, true_or, or_true, false_or, or_false, false_and, and_false, c0_v, ci_v, cl_v, cf_v, pk_mul, nI_add, nI_clamp, nI_lt0, nI_0le, nI_eq0, nI_lt0r, nI_ltE, nI_leE, nI_eqE, nI_m1, in_t, ba0, ba1, Nat.one_ne_zero, Nat.reduceEqDiff, Nat.reduceLeDiff, Nat.add_eq_zero_iff, cond_true])
  have H' : r22 sa sv (d + 4) 6 [some (.ref (o + 1)), some (.int (nI w)), some (.int (nI (off_ s w (w + 1)))), some (.int (nI (w + 1)))] [] m = _ := H
  rw [hz _ (Nat.le_refl _)] at H'
  rw [c22, b22_0, nI_add]
  refine H'.trans ?_
  show r22 sa sv (d + 4) 6 _ [] m = _
  rw [b22_6]
  simp (disch := omega) only [gq_true, gb_true, gb_false, true_and, and_true, eq_self, not_false_eq_true, not_true_eq_false, true_or, or_true, false_or, or_false, false_and, and_false, c0_v, ci_v, cl_v, cf_v, pk_mul, nI_add, nI_clamp, nI_lt0, nI_0le, nI_eq0, nI_lt0r, nI_ltE, nI_leE, nI_eqE, nI_m1, in_t, ba0, ba1, Nat.one_ne_zero, Nat.reduceEqDiff, Nat.reduceLeDiff, Nat.add_eq_zero_iff, ok1 hO, ov_nw hV]
  rw [e0]
  simp (disch := omega) only [gq_true, gb_true, gb_false, true_and, and_true, eq_self, not_false_eq_true, not_true_eq_false, true_or, or_true, false_or, or_false, false_and, and_false, c0_v, ci_v, cl_v, cf_v, pk_mul, nI_add, nI_clamp, nI_lt0, nI_0le, nI_eq0, nI_lt0r, nI_ltE, nI_leE, nI_eqE, nI_m1, in_t, ba0, ba1, Nat.one_ne_zero, Nat.reduceEqDiff, Nat.reduceLeDiff, Nat.add_eq_zero_iff, Nat.le_refl]
end R42
