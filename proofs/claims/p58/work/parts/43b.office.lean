/-! the class reads its office: the rest of it -/
def pct_ (a p : Int32) : Int32 := a * p / nI 100
def amt_ (x : Int32) : Bool := decide (1 ≤ x.toInt ∧ x.toInt ≤ 9999999)
def paid_ (s : Nat → Int32) (q : Nat → Int64) (p : Nat) : Bool := decide (0 < q p ∧ (s (8 + p)).toInt64 ≤ q p)
def pay_ (s : Nat → Int32) (q : Nat → Int64) : Nat → Nat := fl_ (fun p x => bif paid_ s q p then x ||| 2 ^ p else x) 0
def rich_ (q : Nat → Int64) : Nat → Nat × Int64 := fl_ (fun p x => if x.2 < q p then (2 ^ p, q p) else if q p = x.2 then (x.1 ||| 2 ^ p, x.2) else x) (0, -1)
def dear_ (q : Nat → Int64) : Nat → Int32 × Int64 := fl_ (fun w x => if x.2 < q (200 + w) then (nI w, q (200 + w)) else x) (-1, 0)
def ern_ (q : Nat → Int64) : Nat → Int64 := fl_ (fun p x => x + q (10 + 4 * p + 0)) 0
theorem fl_s {α : Type} (f : Nat → α → α) (a : α) (n : Nat) : fl_ f a (n + 1) = f n (fl_ f a n) := rfl
theorem nI_lt_i {n : Nat} {x : Int32} (hn : n < 2 ^ 31) : (nI n < x) = ((n : Int) < x.toInt) := propext (by rw [Int32.lt_iff_toInt_lt, nI_toInt hn])
theorem i_lt_nI {n : Nat} {x : Int32} (hn : n < 2 ^ 31) : (x < nI n) = (x.toInt < (n : Int)) := propext (by rw [Int32.lt_iff_toInt_lt, nI_toInt hn])
theorem i_lt_0 {x : Int32} : (x < 0) = (x.toInt < 0) := propext (by rw [Int32.lt_iff_toInt_lt, z32])
section R43
variable {sa sv d o : Nat} {m : am_M} {s : Nat → Int32} {q : Nat → Int64}
theorem x216 (x : Int32) : am_ca sa sv (d + 1) 216 [.int x] m = some (.inl (some (.int (tr_ (inR x 10000)))), m) := by
  rw [c216, b216_0]
  simp (disch := omega) only [gq_true, gb_true, gb_false, true_and, and_true, eq_self, not_false_eq_true, not_true_eq_false, true_or, or_true, false_or, or_false, false_and, and_false, c0_v, ci_v, cl_v, cf_v, pk_mul, nI_add, nI_clamp, nI_lt0, nI_0le, nI_eq0, nI_lt0r, nI_ltE, nI_leE, nI_eqE, nI_m1, in_t, ba0, ba1, Nat.one_ne_zero, Nat.reduceEqDiff, Nat.reduceLeDiff, Nat.add_eq_zero_iff]
  rw [i_lt_0, nI_lt_i (by omega)]
  unfold inR
  by_cases h : 0 ≤ x.toInt ∧ x.toInt < ((10000 : Nat) : Int)
  · rw [gb_neg (by omega), gb_neg (by omega), decide_eq_true h]; rfl
  · rw [decide_eq_false h]
    by_cases h1 : x.toInt < 0
    · rw [gb_pos h1]; rfl
    · rw [gb_neg h1, gb_pos (by omega)]; rfl
theorem x218 (x : Int32) : am_ca sa sv (d + 1) 218 [.int x] m = some (.inl (some (.int (tr_ (inR x 100000)))), m) := by
  rw [c218, b218_0]
  simp (disch := omega) only [gq_true, gb_true, gb_false, true_and, and_true, eq_self, not_false_eq_true, not_true_eq_false, true_or, or_true, false_or, or_false, false_and, and_false, c0_v, ci_v, cl_v, cf_v, pk_mul, nI_add, nI_clamp, nI_lt0, nI_0le, nI_eq0, nI_lt0r, nI_ltE, nI_leE, nI_eqE, nI_m1, in_t, ba0, ba1, Nat.one_ne_zero, Nat.reduceEqDiff, Nat.reduceLeDiff, Nat.add_eq_zero_iff]
  rw [i_lt_0, nI_lt_i (by omega)]
  unfold inR
  by_cases h : 0 ≤ x.toInt ∧ x.toInt < ((100000 : Nat) : Int)
  · rw [gb_neg (by omega), gb_neg (by omega), decide_eq_true h]; rfl
  · rw [decide_eq_false h]
    by_cases h1 : x.toInt < 0
    · rw [gb_pos h1]; rfl
    · rw [gb_neg h1, gb_pos (by omega)]; rfl
theorem x217 (x : Int32) : am_ca sa sv (d + 1) 217 [.int x] m = some (.inl (some (.int (tr_ (amt_ x)))), m) := by
  rw [c217, b217_0]
  simp (disch := omega) only [gq_true, gb_true, gb_false, true_and, and_true, eq_self, not_false_eq_true, not_true_eq_false, true_or, or_true, false_or, or_false, false_and, and_false, c0_v, ci_v, cl_v, cf_v, pk_mul, nI_add, nI_clamp, nI_lt0, nI_0le, nI_eq0, nI_lt0r, nI_ltE, nI_leE, nI_eqE, nI_m1, in_t, ba0, ba1, Nat.one_ne_zero, Nat.reduceEqDiff, Nat.reduceLeDiff, Nat.add_eq_zero_iff]
  rw [i_lt_nI (by omega), nI_lt_i (by omega)]
  unfold amt_
  by_cases h : 1 ≤ x.toInt ∧ x.toInt ≤ 9999999
  · rw [gb_neg (by omega), gb_neg (by omega), decide_eq_true h]; rfl
  · rw [decide_eq_false h]
    by_cases h1 : x.toInt < ((1 : Nat) : Int)
    · rw [gb_pos h1]; rfl
    · rw [gb_neg h1, gb_pos (by omega)]; rfl
theorem x219 (p a : Int32) : am_ca sa sv (d + 1) 219 [.int p, .int a] m = some (.inl (some (.int (pct_ a p))), m) := by
  rw [c219, b219_0]
  simp (disch := omega) only [gq_true, gb_true, gb_false, true_and, and_true, eq_self, not_false_eq_true, not_true_eq_false, true_or, or_true, false_or, or_false, false_and, and_false, c0_v, ci_v, cl_v, cf_v, pk_mul, nI_add, nI_clamp, nI_lt0, nI_0le, nI_eq0, nI_lt0r, nI_ltE, nI_leE, nI_eqE, nI_m1, in_t, ba0, ba1, Nat.one_ne_zero, Nat.reduceEqDiff, Nat.reduceLeDiff, Nat.add_eq_zero_iff]
  rfl
theorem x214 (p : Int32) (n : Nat) (hn : n < 2 ^ 31) : am_ca sa sv (d + 1) 214 [.int p, .int (nI n)] m = bif inR p n then some (.inl none, m) else some (.inr 2, th_ m) := by
  rw [c214, b214_0, i_lt_0, i_lt_nI hn]
  unfold inR
  by_cases h : 0 ≤ p.toInt ∧ p.toInt < (n : Int)
  · rw [gb_neg (by omega), gb_pos (by omega), decide_eq_true h]; rfl
  · rw [decide_eq_false h]
    by_cases h1 : p.toInt < 0
    · rw [gb_pos h1]; rfl
    · rw [gb_neg h1, gb_neg (by omega)]; rfl
theorem x215 (b : Bool) : am_ca sa sv (d + 1) 215 [.int (tr_ b)] m = bif b then some (.inl none, m) else some (.inr 1, th_ m) := by
  rw [c215, b215_0, tr_0]
  cases b
  · rw [gb_pos rfl]; rfl
  · rw [gb_neg (by decide)]; rfl
theorem x49 (a n i : Nat) (hk : gk_ m a = (4, n)) (hn : n < 2 ^ 31) (hi : i < n) : am_ca sa sv (d + 1) 49 [.ref a, .int (nI i)] m = some (.inl (some (.long (gl_ m a i))), m) := by
  rw [c49, b49_0]
  simp (disch := omega) only [gq_true, gb_true, gb_false, true_and, and_true, eq_self, not_false_eq_true, not_true_eq_false, true_or, or_true, false_or, or_false, false_and, and_false, c0_v, ci_v, cl_v, cf_v, pk_mul, nI_add, nI_clamp, nI_lt0, nI_0le, nI_eq0, nI_lt0r, nI_ltE, nI_leE, nI_eqE, nI_m1, in_t, ba0, ba1, Nat.one_ne_zero, Nat.reduceEqDiff, Nat.reduceLeDiff, Nat.add_eq_zero_iff, hk]
  rw [gb_neg (by omega)]
theorem x63 (hO : OS m o) (hV : OV m o s q) (p : Nat) (hp : p < 10) : am_ca sa sv (d + 2) 63 [.ref (o + 19), .int (nI p)] m = some (.inl (some (.long (q p))), m) := by
  rw [c63, b63_0]
  simp (disch := omega) only [gq_true, gb_true, gb_false, true_and, and_true, eq_self, not_false_eq_true, not_true_eq_false, true_or, or_true, false_or, or_false, false_and, and_false, c0_v, ci_v, cl_v, cf_v, pk_mul, nI_add, nI_clamp, nI_lt0, nI_0le, nI_eq0, nI_lt0r, nI_ltE, nI_leE, nI_eqE, nI_m1, in_t, ba0, ba1, Nat.one_ne_zero, Nat.reduceEqDiff, Nat.reduceLeDiff, Nat.add_eq_zero_iff, ok19 hO, or19_0 hO, x49 (o + 20) 10 p (ok20 hO) (by omega) hp, ov_ba hV p hp]
theorem x64 (hO : OS m o) (hV : OV m o s q) (p c : Nat) (hp : p < 10) (hc : c < 4) : am_ca sa sv (d + 2) 64 [.ref (o + 19), .int (nI p), .int (nI c)] m = some (.inl (some (.long (q (10 + 4 * p + c)))), m) := by
  rw [c64, b64_0]
  simp (disch := omega) only [gq_true, gb_true, gb_false, true_and, and_true, eq_self, not_false_eq_true, not_true_eq_false, true_or, or_true, false_or, or_false, false_and, and_false, c0_v, ci_v, cl_v, cf_v, pk_mul, nI_add, nI_clamp, nI_lt0, nI_0le, nI_eq0, nI_lt0r, nI_ltE, nI_leE, nI_eqE, nI_m1, in_t, ba0, ba1, Nat.one_ne_zero, Nat.reduceEqDiff, Nat.reduceLeDiff, Nat.add_eq_zero_iff, ok19 hO, or19_1 hO, x49 (o + 21) 40 (p * 4 + c) (ok21 hO) (by omega) (by omega), ov_to hV p c hp hc]
theorem x65 (hO : OS m o) (hV : OV m o s q) (p c : Nat) (hp : p < 10) (hc : c < 3) : am_ca sa sv (d + 2) 65 [.ref (o + 19), .int (nI p), .int (nI c)] m = some (.inl (some (.long (q (50 + 3 * p + c)))), m) := by
  rw [c65, b65_0]
  simp (disch := omega) only [gq_true, gb_true, gb_false, true_and, and_true, eq_self, not_false_eq_true, not_true_eq_false, true_or, or_true, false_or, or_false, false_and, and_false, c0_v, ci_v, cl_v, cf_v, pk_mul, nI_add, nI_clamp, nI_lt0, nI_0le, nI_eq0, nI_lt0r, nI_ltE, nI_leE, nI_eqE, nI_m1, in_t, ba0, ba1, Nat.one_ne_zero, Nat.reduceEqDiff, Nat.reduceLeDiff, Nat.add_eq_zero_iff, ok19 hO, or19_2 hO, x49 (o + 22) 30 (p * 3 + c) (ok22 hO) (by omega) (by omega), ov_pe hV p c hp hc]
theorem x66 (hO : OS m o) (hV : OV m o s q) (p w : Nat) (hp : p < 10) (hw : w < 12) : am_ca sa sv (d + 2) 66 [.ref (o + 19), .int (nI p), .int (nI w)] m = some (.inl (some (.long (q (80 + 12 * p + w)))), m) := by
  rw [c66, b66_0]
  simp (disch := omega) only [gq_true, gb_true, gb_false, true_and, and_true, eq_self, not_false_eq_true, not_true_eq_false, true_or, or_true, false_or, or_false, false_and, and_false, c0_v, ci_v, cl_v, cf_v, pk_mul, nI_add, nI_clamp, nI_lt0, nI_0le, nI_eq0, nI_lt0r, nI_ltE, nI_leE, nI_eqE, nI_m1, in_t, ba0, ba1, Nat.one_ne_zero, Nat.reduceEqDiff, Nat.reduceLeDiff, Nat.add_eq_zero_iff, ok19 hO, or19_3 hO, x49 (o + 23) 120 (p * 12 + w) (ok23 hO) (by omega) (by omega), ov_ea hV p w hp hw]
theorem x55 (b : Int64) (l : Int32) : am_ca sa sv (d + 1) 55 [.long b, .int l] m = some (.inl (some (.int (tr_ (decide (0 < b ∧ l.toInt64 ≤ b))))), m) := by
  rw [c55, b55_0, lgc_le, lgc_lt]
  simp (disch := omega) only [gq_true, gb_true, gb_false, true_and, and_true, eq_self, not_false_eq_true, not_true_eq_false, true_or, or_true, false_or, or_false, false_and, and_false, c0_v, ci_v, cl_v, cf_v, pk_mul, nI_add, nI_clamp, nI_lt0, nI_0le, nI_eq0, nI_lt0r, nI_ltE, nI_leE, nI_eqE, nI_m1, in_t, ba0, ba1, Nat.one_ne_zero, Nat.reduceEqDiff, Nat.reduceLeDiff, Nat.add_eq_zero_iff]
  by_cases h : 0 < b ∧ l.toInt64 ≤ b
  · rw [gb_neg (Int64.not_le.mpr h.1), gb_neg (Int64.not_lt.mpr h.2), decide_eq_true h]; rfl
  · rw [decide_eq_false h]
    by_cases h1 : b ≤ 0
    · rw [gb_pos h1]; rfl
    · rw [gb_neg h1, gb_pos (Int64.not_le.mp fun z => h ⟨Int64.not_le.mp h1, z⟩)]; rfl
theorem x60 (hO : OS m o) (hV : OV m o s q) {B : Nat} (hK : WK B s) (hB : B < 2 ^ 30) : am_ca sa sv (d + 1) 60 [.ref (o + 19)] m = some (.inl (some (.int (s 7))), m) := by
  obtain ⟨e0, b0⟩ := (wk_c hK).c (by omega)
  rw [c60, b60_0]
  simp (disch := omega) only [gq_true, gb_true, gb_false, true_and, and_true, eq_self, not_false_eq_true, not_true_eq_false, true_or, or_true, false_or, or_false, false_and, and_false, c0_v, ci_v, cl_v, cf_v, pk_mul, nI_add, nI_clamp, nI_lt0, nI_0le, nI_eq0, nI_lt0r, nI_ltE, nI_leE, nI_eqE, nI_m1, in_t, ba0, ba1, Nat.one_ne_zero, Nat.reduceEqDiff, Nat.reduceLeDiff, Nat.add_eq_zero_iff, ok19 hO, ov_nc hV]
  rw [e0, wk_k hK]
  simp (disch := omega) only [gq_true, gb_true, gb_false, true_and, and_true, eq_self, not_false_eq_true, not_true_eq_false, true_or, or_true, false_or, or_false, false_and, and_false, c0_v, ci_v, cl_v, cf_v, pk_mul, nI_add, nI_clamp, nI_lt0, nI_0le, nI_eq0, nI_lt0r, nI_ltE, nI_leE, nI_eqE, nI_m1, in_t, ba0, ba1, Nat.one_ne_zero, Nat.reduceEqDiff, Nat.reduceLeDiff, Nat.add_eq_zero_iff]
  by_cases h : 5 < cN s 5
  · rw [if_pos h, Nat.min_eq_right (by omega)]
  · rw [if_neg h, Nat.min_eq_left (by omega)]
theorem x61 (hO : OS m o) (hV : OV m o s q) {B : Nat} (hK : WK B s) (hB : B < 2 ^ 30) (i p c : Nat) (hi : i < cN s 7) (hp : p < 10) (hc : c < 5) : am_ca sa sv (d + 2) 61 [.ref (o + 19), .int (nI i), .int (nI p), .int (nI c)] m = some (.inl (some (.long (q (212 + 50 * i + 5 * p + c)))), m) := by
  obtain ⟨e0, b0⟩ := (wk_c hK).c (by omega)
  have e7 : cN s 7 = min (cN s 5) 5 := cN_ (wk_k hK) (by omega)
  have h1 : i < cN s 5 := by omega
  have hm := Nat.mod_lt (cN s 5 - 1 - i) (by decide : 5 > 0)
  rw [c61, b61_0]
  simp (disch := omega) only [gq_true, gb_true, gb_false, true_and, and_true, eq_self, not_false_eq_true, not_true_eq_false, true_or, or_true, false_or, or_false, false_and, and_false, c0_v, ci_v, cl_v, cf_v, pk_mul, nI_add, nI_clamp, nI_lt0, nI_0le, nI_eq0, nI_lt0r, nI_ltE, nI_leE, nI_eqE, nI_m1, in_t, ba0, ba1, Nat.one_ne_zero, Nat.reduceEqDiff, Nat.reduceLeDiff, Nat.add_eq_zero_iff, ok19 hO, ov_nc hV]
  rw [e0, show nI (cN s 5) - nI 1 - nI i = nI (cN s 5 - 1 - i) by rw [pk_sub (by omega), pk_sub (by omega)], c59, b59_0]
  rw [pk_rem (by omega) (by decide) (by decide)]
  simp (disch := omega) only [gq_true, gb_true, gb_false, true_and, and_true, eq_self, not_false_eq_true, not_true_eq_false, true_or, or_true, false_or, or_false, false_and, and_false, c0_v, ci_v, cl_v, cf_v, pk_mul, nI_add, nI_clamp, nI_lt0, nI_0le, nI_eq0, nI_lt0r, nI_ltE, nI_leE, nI_eqE, nI_m1, in_t, ba0, ba1, Nat.one_ne_zero, Nat.reduceEqDiff, Nat.reduceLeDiff, Nat.add_eq_zero_iff, ok19 hO, or19_5 hO, x49 (o + 25) 250 (((cN s 5 - 1 - i) % 5 * 10 + p) * 5 + c) (ok25 hO) (by omega) (by omega), ov_st hV i p c hi hp hc]
end R43
