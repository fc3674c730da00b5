/-! the class's book of balances -/
def ad_ (m : am_M) (a i : Nat) (v : Int64) : am_M := sl_ m a i (gl_ m a i + v)
theorem gl_ad (m : am_M) (a i b j : Nat) (v : Int64) : gl_ (ad_ m a i v) b j = if b = a ∧ j = i then gl_ m b j + v else gl_ m b j := by
  unfold ad_
  rw [gl_sl]
  by_cases h : b = a ∧ j = i
  · rw [if_pos h, if_pos h, h.1, h.2]
  · rw [if_neg h, if_neg h]
theorem OS.ad {m : am_M} {o a i : Nat} {v : Int64} (h : OS m o) : OS (ad_ m a i v) o := h
theorem Fr.ad {P : Nat → Nat → Prop} {m m' : am_M} {a i : Nat} {v : Int64} (h : Fr P m m') (hp : P a i) : Fr P m (ad_ m' a i v) := h.sl hp
section R70
variable {sa sv d N o : Nat} {m : am_M} {s : Nat → Int32} {q : Nat → Int64}
theorem x50 (a n i : Nat) (v : Int64) (hk : gk_ m a = (4, n)) (hn : n < 2 ^ 31) (hi : i < n) : am_ca sa sv (d + 1) 50 [.ref a, .int (nI i), .long v] m = some (.inl none, ad_ m a i v) := by
  rw [c50, b50_0]
  simp (disch := omega) only [gq_true, gb_true, gb_false, true_and, and_true, eq_self, not_false_eq_true, not_true_eq_false, true_or, or_true, false_or, or_false, false_and, and_false, c0_v, ci_v, cl_v, cf_v, pk_mul, nI_add, nI_clamp, nI_lt0, nI_0le, nI_eq0, nI_lt0r, nI_ltE, nI_leE, nI_eqE, nI_m1, in_t, ba0, ba1, Nat.one_ne_zero, Nat.reduceEqDiff, Nat.reduceLeDiff, Nat.add_eq_zero_iff, hk]
  rw [gb_neg (by omega)]
  rfl
/-- one more of what p had -/
def ae_ (m : am_M) (o p c : Nat) (v : Int64) : am_M := ad_ (ad_ m (o + 21) (p * 4 + c) v) (o + 22) (p * 3 + c) v
theorem OS.ae {m : am_M} {o a p c : Nat} {v : Int64} (h : OS m o) : OS (ae_ m a p c v) o := h
theorem x51 (hO : OS m o) (p c : Nat) (v : Int64) (hp : p < 10) (hc : c < 3) : am_ca sa sv (d + 2) 51 [.ref (o + 19), .int (nI p), .int (nI c), .long v] m = some (.inl none, ae_ m o p c v) := by
  have hO1 : OS (ad_ m (o + 21) (p * 4 + c) v) o := hO
  rw [c51, b51_0]
  simp (disch := omega) only [gq_true, gb_true, gb_false, true_and, and_true, eq_self, not_false_eq_true, not_true_eq_false, true_or, or_true, false_or, or_false, false_and, and_false, c0_v, ci_v, cl_v, cf_v, pk_mul, nI_add, nI_clamp, nI_lt0, nI_0le, nI_eq0, nI_lt0r, nI_ltE, nI_leE, nI_eqE, nI_m1, in_t, ba0, ba1, Nat.one_ne_zero, Nat.reduceEqDiff, Nat.reduceLeDiff, Nat.add_eq_zero_iff, ok19 hO, or19_1 hO, x50 (o + 21) 40 (p * 4 + c) v (ok21 hO) (by omega) (by omega), ok19 hO1, or19_2 hO1, x50 (o + 22) 30 (p * 3 + c) v (ok22 hO1) (by omega) (by omega)]
  rfl
theorem x52 (hO : OS m o) (w : Nat) (v : Int32) (hw : w < 12) : am_ca sa sv (d + 2) 52 [.ref (o + 19), .int (nI w), .int v] m = some (.inl none, ad_ m (o + 24) w v.toInt64) := by
  rw [c52, b52_0]
  simp (disch := omega) only [gq_true, gb_true, gb_false, true_and, and_true, eq_self, not_false_eq_true, not_true_eq_false, true_or, or_true, false_or, or_false, false_and, and_false, c0_v, ci_v, cl_v, cf_v, pk_mul, nI_add, nI_clamp, nI_lt0, nI_0le, nI_eq0, nI_lt0r, nI_ltE, nI_leE, nI_eqE, nI_m1, in_t, ba0, ba1, Nat.one_ne_zero, Nat.reduceEqDiff, Nat.reduceLeDiff, Nat.add_eq_zero_iff, ok19 hO, or19_4 hO, x50 (o + 24) 12 w v.toInt64 (ok24 hO) (by omega) (by omega)]
theorem x54 (hO : OS m o) (p : Nat) (v : Int32) (hp : p < 10) : am_ca sa sv (d + 3) 54 [.ref (o + 19), .int (nI p), .int v] m = some (.inl none, ad_ (ae_ m o p 2 v.toInt64) (o + 20) p v.toInt64) := by
  have hO1 : OS (ae_ m o p 2 v.toInt64) o := hO
  rw [c54, b54_0]
  simp (disch := omega) only [gq_true, gb_true, gb_false, true_and, and_true, eq_self, not_false_eq_true, not_true_eq_false, true_or, or_true, false_or, or_false, false_and, and_false, c0_v, ci_v, cl_v, cf_v, pk_mul, nI_add, nI_clamp, nI_lt0, nI_0le, nI_eq0, nI_lt0r, nI_ltE, nI_leE, nI_eqE, nI_m1, in_t, ba0, ba1, Nat.one_ne_zero, Nat.reduceEqDiff, Nat.reduceLeDiff, Nat.add_eq_zero_iff, ok19 hO, x51 hO p 2 v.toInt64 hp (by omega), ok19 hO1, or19_0 hO1, x50 (o + 20) 10 p v.toInt64 (ok20 hO1) (by omega) (by omega)]
theorem x53 (hO : OS m o) (p w x y : Nat) (hp : p < 10) (hw : w < 12) (hy : y ≤ x) : am_ca sa sv (d + 3) 53 [.ref (o + 19), .int (nI p), .int (nI w), .int (nI x), .int (nI y)] m = some (.inl none, ad_ (ad_ (ae_ (ae_ m o p 0 (nI x).toInt64) o p 1 (nI y).toInt64) (o + 23) (p * 12 + w) (nI x).toInt64) (o + 20) p (nI (x - y)).toInt64) := by
  have hO1 : OS (ae_ m o p 0 (nI x).toInt64) o := hO
  have hO2 : OS (ae_ (ae_ m o p 0 (nI x).toInt64) o p 1 (nI y).toInt64) o := hO
  have hO3 : OS (ad_ (ae_ (ae_ m o p 0 (nI x).toInt64) o p 1 (nI y).toInt64) (o + 23) (p * 12 + w) (nI x).toInt64) o := hO
  rw [c53, b53_0]
  simp (disch := omega) only [gq_true, gb_true, gb_false, true_and, and_true, eq_self, not_false_eq_true, not_true_eq_false, true_or, or_true, false_or, or_false, false_and, and_false, c0_v, ci_v, cl_v, cf_v, pk_mul, nI_add, nI_clamp, nI_lt0, nI_0le, nI_eq0, nI_lt0r, nI_ltE, nI_leE, nI_eqE, nI_m1, in_t, ba0, ba1, Nat.one_ne_zero, Nat.reduceEqDiff, Nat.reduceLeDiff, Nat.add_eq_zero_iff, ok19 hO, ok19 hO1, ok19 hO2, ok19 hO3, x51 hO p 0 (nI x).toInt64 hp (by omega), x51 hO1 p 1 (nI y).toInt64 hp (by omega), or19_3 hO2, or19_0 hO3, x50 (o + 23) 120 (p * 12 + w) (nI x).toInt64 (ok23 hO2) (by omega) (by omega), pk_sub hy, x50 (o + 20) 10 p (nI (x - y)).toInt64 (ok20 hO3) (by omega) (by omega)]
end R70
