/-! the class reads its office: most assigned, next change, richest, payable, what may be done -/
def cps_ (s : Nat → Int32) (x : Int32) : Bool := inR x 10000 && decide ((s 4).toInt + x.toInt ≤ 9999)
def crv_ (s : Nat → Int32) (a : Nat) (x : Int32) : Bool := decide (s 4 ≤ x ∧ x < s (594 + 6 * a + 5) ∧ s (594 + 6 * a + 4) < x)
def nsp_ (s : Nat → Int32) (t : Int32) (w : Nat) (n : Int32) : Nat → Int32 := fl_ (fun k n => if k = 0 then n else ea_ t (s (19 + 48 * w + k)) n) n
def nc1_ (s : Nat → Int32) (t : Int32) : Nat → Int32 := fl_ (fun w n => nsp_ s t w n (cN s (18 + 48 * w))) (-1)
def nc2_ (s : Nat → Int32) (t : Int32) (n : Int32) : Nat → Int32 := fl_ (fun a n => ea_ t (s (594 + 6 * a + 5)) (ea_ t (s (594 + 6 * a + 4)) n)) n
def nch_ (s : Nat → Int32) (t : Int32) : Int32 := nc2_ s t (nc1_ s t (cN s 1)) (cN s 2)
theorem pay_lt {s : Nat → Int32} {q : Nat → Int64} : ∀ n, pay_ s q n < 2 ^ n := by
  intro n
  induction n with
  | zero => exact Nat.one_pos
  | succ n ih =>
    show (bif paid_ s q n then pay_ s q n ||| 2 ^ n else pay_ s q n) < 2 ^ (n + 1)
    have h : pay_ s q n < 2 ^ (n + 1) := Nat.lt_of_lt_of_le ih (Nat.pow_le_pow_right (by decide) (Nat.le_succ n))
    cases paid_ s q n with
    | true => exact Nat.or_lt_two_pow h (Nat.pow_lt_pow_right (by decide) (Nat.lt_succ_self n))
    | false => exact h
section R43
variable {sa sv d o : Nat} {m : am_M} {s : Nat → Int32} {q : Nat → Int64}
theorem x85 (hO : OS m o) (hV : OV m o s q) (hC : WC s) (x : Int32) : am_ca sa sv (d + 2) 85 [.ref o, .int x] m = some (.inl (some (.int (tr_ (cps_ s x)))), m) := by
  obtain ⟨e0, b0⟩ := (wc_day hC).c (by decide)
  rw [c85, b85_0, x216, ci_v, tr_0]
  unfold cps_
  cases hb : inR x 10000 with
  | false =>
    rw [gb_pos rfl]
    simp (disch := omega) only [gq_true, gb_true, gb_false, true_and, and_true, eq_self, not_false_eq_true, not_true_eq_false, true_or, or_true, false_or, or_false, false_and, and_false, c0_v, ci_v, cl_v, cf_v, pk_mul, nI_add, nI_clamp, nI_lt0, nI_0le, nI_eq0, nI_lt0r, nI_ltE, nI_leE, nI_eqE, nI_m1, in_t, ba0, ba1, Nat.one_ne_zero, Nat.reduceEqDiff, Nat.reduceLeDiff, Nat.add_eq_zero_iff]
    rfl
  | true =>
    obtain ⟨k, hk, rfl⟩ := (inR_t (by decide)).mp hb
    rw [gb_neg (by decide)]
    simp (disch := omega) only [gq_true, gb_true, gb_false, true_and, and_true, eq_self, not_false_eq_true, not_true_eq_false, true_or, or_true, false_or, or_false, false_and, and_false, c0_v, ci_v, cl_v, cf_v, pk_mul, nI_add, nI_clamp, nI_lt0, nI_0le, nI_eq0, nI_lt0r, nI_ltE, nI_leE, nI_eqE, nI_m1, in_t, ba0, ba1, Nat.one_ne_zero, Nat.reduceEqDiff, Nat.reduceLeDiff, Nat.add_eq_zero_iff, ok0 hO, ov_day hV]
    rw [e0, nI_toInt (by omega), nI_toInt (by omega)]
    simp (disch := omega) only [gq_true, gb_true, gb_false, true_and, and_true, eq_self, not_false_eq_true, not_true_eq_false, true_or, or_true, false_or, or_false, false_and, and_false, c0_v, ci_v, cl_v, cf_v, pk_mul, nI_add, nI_clamp, nI_lt0, nI_0le, nI_eq0, nI_lt0r, nI_ltE, nI_leE, nI_eqE, nI_m1, in_t, ba0, ba1, Nat.one_ne_zero, Nat.reduceEqDiff, Nat.reduceLeDiff, Nat.add_eq_zero_iff]
    by_cases h : cN s 4 + k ≤ 9999
    · rw [gb_neg (by omega), decide_eq_true (by omega)]; rfl
    · rw [gb_pos (by omega), decide_eq_false (by omega)]; rfl
theorem x86 (hO : OS m o) (hV : OV m o s q) (a : Nat) (ha : a < 16) (x : Int32) : am_ca sa sv (d + 2) 86 [.ref o, .int (nI a), .int x] m = some (.inl (some (.int (tr_ (crv_ s a x)))), m) := by
  rw [c86, b86_0]
  simp (disch := omega) only [gq_true, gb_true, gb_false, true_and, and_true, eq_self, not_false_eq_true, not_true_eq_false, true_or, or_true, false_or, or_false, false_and, and_false, c0_v, ci_v, cl_v, cf_v, pk_mul, nI_add, nI_clamp, nI_lt0, nI_0le, nI_eq0, nI_lt0r, nI_ltE, nI_leE, nI_eqE, nI_m1, in_t, ba0, ba1, Nat.one_ne_zero, Nat.reduceEqDiff, Nat.reduceLeDiff, Nat.add_eq_zero_iff, ok0 hO, ov_day hV, or0_2 hO, ok13 hO, xas hO hV a 5 ha (by omega), xas hO hV a 4 ha (by omega)]
  unfold crv_
  by_cases h1 : s 4 ≤ x
  · rw [gb_neg (Int32.not_lt.mpr h1)]
    by_cases h2 : x < s (594 + 6 * a + 5)
    · rw [gb_neg (Int32.not_le.mpr h2)]
      by_cases h3 : s (594 + 6 * a + 4) < x
      · rw [gb_neg (Int32.not_le.mpr h3), decide_eq_true ⟨h1, h2, h3⟩]; rfl
      · rw [gb_pos (Int32.not_lt.mp h3), decide_eq_false (fun z => h3 z.2.2)]; rfl
    · rw [gb_pos (Int32.not_lt.mp h2), decide_eq_false (fun z => h2 z.2.1)]; rfl
  · rw [gb_pos (Int32.not_le.mp h1), decide_eq_false (fun z => h1 z.1)]; rfl
theorem x84 (hO : OS m o) (hV : OV m o s q) (hC : WC s) : am_ca sa sv (d + 3) 84 [.ref o] m = some (.inl (some (.int (nI (pay_ s q (cN s 0))))), m) := by
  obtain ⟨e0, b0⟩ := (wc_np hC).c (by decide)
  have H := lp_up (fun i => r84 sa sv (d + 2) 4 [some (.ref o), some (.int (nI (pay_ s q i))), some (.int (nI i))] [] m) (cN s 0) (fun i hi => by
    show r84 sa sv (d + 2) 4 _ [] m = _
    have e9 : pay_ s q (i + 1) = bif paid_ s q i then pay_ s q i ||| 2 ^ i else pay_ s q i := rfl
    have e8 : paid_ s q i = decide (0 < q i ∧ (s (8 + i)).toInt64 ≤ q i) := rfl
    rw [b84_4]
    simp (disch := omega) only [gq_true, gb_true, gb_false, true_and, and_true, eq_self, not_false_eq_true, not_true_eq_false, true_or, or_true, false_or, or_false, false_and, and_false, c0_v, ci_v, cl_v, cf_v, pk_mul, nI_add, nI_clamp, nI_lt0, nI_0le, nI_eq0, nI_lt0r, nI_ltE, nI_leE, nI_eqE, nI_m1, in_t, ba0, ba1, Nat.one_ne_zero, Nat.reduceEqDiff, Nat.reduceLeDiff, Nat.add_eq_zero_iff, ok0 hO, or0_1 hO, ok1 hO, ov_np hV]
    rw [e0]
    simp (disch := omega) only [gq_true, gb_true, gb_false, true_and, and_true, eq_self, not_false_eq_true, not_true_eq_false, true_or, or_true, false_or, or_false, false_and, and_false, c0_v, ci_v, cl_v, cf_v, pk_mul, nI_add, nI_clamp, nI_lt0, nI_0le, nI_eq0, nI_lt0r, nI_ltE, nI_leE, nI_eqE, nI_m1, in_t, ba0, ba1, Nat.one_ne_zero, Nat.reduceEqDiff, Nat.reduceLeDiff, Nat.add_eq_zero_iff, or0_5 hO, ok19 hO, ok0 hO, x63 hO hV i (by omega), or0_1 hO, ok1 hO, x14 hO hV hC i (by omega), if_pos hi, x55, tr_0]
    rw [gb_neg (by omega), ← e8, nI_sh1 _ (by omega), nI_or]
    cases hb : paid_ s q i with
    | false => rw [gb_pos rfl, e9, hb]; rfl
    | true => rw [gb_neg (by decide), e9, hb]; rfl)
  rw [c84, b84_0]
  refine H.trans ?_
  show r84 sa sv (d + 2) 4 _ [] m = _
  rw [b84_4]
  simp (disch := omega) only [gq_true, gb_true, gb_false, true_and, and_true, eq_self, not_false_eq_true, not_true_eq_false, true_or, or_true, false_or, or_false, false_and, and_false, c0_v, ci_v, cl_v, cf_v, pk_mul, nI_add, nI_clamp, nI_lt0, nI_0le, nI_eq0, nI_lt0r, nI_ltE, nI_leE, nI_eqE, nI_m1, in_t, ba0, ba1, Nat.one_ne_zero, Nat.reduceEqDiff, Nat.reduceLeDiff, Nat.add_eq_zero_iff, ok0 hO, or0_1 hO, ok1 hO, ov_np hV]
  rw [e0]
  simp (disch := omega) only [gq_true, gb_true, gb_false, true_and, and_true, eq_self, not_false_eq_true, not_true_eq_false, true_or, or_true, false_or, or_false, false_and, and_false, c0_v, ci_v, cl_v, cf_v, pk_mul, nI_add, nI_clamp, nI_lt0, nI_0le, nI_eq0, nI_lt0r, nI_ltE, nI_leE, nI_eqE, nI_m1, in_t, ba0, ba1, Nat.one_ne_zero, Nat.reduceEqDiff, Nat.reduceLeDiff, Nat.add_eq_zero_iff, Nat.le_refl]
theorem x76 (hO : OS m o) (hV : OV m o s q) (hC : WC s) (hA : WA s) (w p f u : Nat) (hw : w < 2 ^ 31) (hp : p < 2 ^ 31) (hf : f < 2 ^ 31) (hu : u < 2 ^ 31) : am_ca sa sv (d + 4) 76 [.ref o, .int (nI w), .int (nI p), .int (nI f), .int (nI u)] m = some (.inl (some (.int (nI (mst_ s p w f u (cN s 2))))), m) := by
  obtain ⟨e0, b0⟩ := (wc_na hC).c (by decide)
  have hm : ∀ i, mst_ s p w f u i ≤ 100 := by
    intro i
    induction i with
    | zero => exact wa_s hA p w f
    | succ i ih =>
      show (if f < cN s (594 + 6 * i + 4) ∧ cN s (594 + 6 * i + 4) < u then max (mst_ s p w f u i) (lv_ s p w (cN s (594 + 6 * i + 4)) (cN s 2)) else mst_ s p w f u i) ≤ 100
      have := wa_s hA p w (cN s (594 + 6 * i + 4))
      split <;> omega
  have step : ∀ n i (o7 : Option Value), i + n = cN s 2 → r76 sa sv (d + 3) 12 [some (.ref o), some (.int (nI w)), some (.int (nI p)), some (.int (nI f)), some (.int (nI u)), some (.int (nI (mst_ s p w f u i))), some (.int (nI i)), o7] [] m = some (.inl (some (.int (nI (mst_ s p w f u (cN s 2))))), m) := by
    intro n
    induction n with
    | zero =>
      intro i o7 hi
      rw [b76_12]
      simp (disch := omega) only [gq_true, gb_true, gb_false, true_and, and_true, eq_self, not_false_eq_true, not_true_eq_false, true_or, or_true, false_or, or_false, false_and, and_false, c0_v, ci_v, cl_v, cf_v, pk_mul, nI_add, nI_clamp, nI_lt0, nI_0le, nI_eq0, nI_lt0r, nI_ltE, nI_leE, nI_eqE, nI_m1, in_t, ba0, ba1, Nat.one_ne_zero, Nat.reduceEqDiff, Nat.reduceLeDiff, Nat.add_eq_zero_iff, ok0 hO, or0_2 hO, ok13 hO, ov_na hV]
      rw [e0]
      simp (disch := omega) only [gq_true, gb_true, gb_false, true_and, and_true, eq_self, not_false_eq_true, not_true_eq_false, true_or, or_true, false_or, or_false, false_and, and_false, c0_v, ci_v, cl_v, cf_v, pk_mul, nI_add, nI_clamp, nI_lt0, nI_0le, nI_eq0, nI_lt0r, nI_ltE, nI_leE, nI_eqE, nI_m1, in_t, ba0, ba1, Nat.one_ne_zero, Nat.reduceEqDiff, Nat.reduceLeDiff, Nat.add_eq_zero_iff]
      rw [gb_pos (by omega), show i = cN s 2 by omega]
    | succ n ih =>
      intro i o7 hi
      have e9 : mst_ s p w f u (i + 1) = if f < cN s (594 + 6 * i + 4) ∧ cN s (594 + 6 * i + 4) < u then max (mst_ s p w f u i) (lv_ s p w (cN s (594 + 6 * i + 4)) (cN s 2)) else mst_ s p w f u i := rfl
      obtain ⟨e1, b1⟩ := (wa_f hA i (by omega)).c (by decide)
      have h100 := hm i
      have h200 := wa_s hA p w (cN s (594 + 6 * i + 4))
      rw [b76_12]
      simp (disch := omega) only [gq_true, gb_true, gb_false, true_and, and_true, eq_self, not_false_eq_true, not_true_eq_false, true_or, or_true, false_or, or_false, false_and, and_false, c0_v, ci_v, cl_v, cf_v, pk_mul, nI_add, nI_clamp, nI_lt0, nI_0le, nI_eq0, nI_lt0r, nI_ltE, nI_leE, nI_eqE, nI_m1, in_t, ba0, ba1, Nat.one_ne_zero, Nat.reduceEqDiff, Nat.reduceLeDiff, Nat.add_eq_zero_iff, ok0 hO, or0_2 hO, ok13 hO, ov_na hV]
      rw [e0]
      simp (disch := omega) only [gq_true, gb_true, gb_false, true_and, and_true, eq_self, not_false_eq_true, not_true_eq_false, true_or, or_true, false_or, or_false, false_and, and_false, c0_v, ci_v, cl_v, cf_v, pk_mul, nI_add, nI_clamp, nI_lt0, nI_0le, nI_eq0, nI_lt0r, nI_ltE, nI_leE, nI_eqE, nI_m1, in_t, ba0, ba1, Nat.one_ne_zero, Nat.reduceEqDiff, Nat.reduceLeDiff, Nat.add_eq_zero_iff, xas hO hV i 4 (by omega) (by omega), e1, ok0 hO, x75 hO hV hC hA w p (cN s (594 + 6 * i + 4)) hw hp (by omega)]
      rw [gb_neg (by omega)]
      by_cases h : f < cN s (594 + 6 * i + 4) ∧ cN s (594 + 6 * i + 4) < u
      · rw [gb_neg (by omega), gb_neg (by omega)]
        rw [if_pos h] at e9
        have := ih (i + 1) (some (.int (nI (cN s (594 + 6 * i + 4))))) (by omega)
        rw [e9] at this
        by_cases hh : mst_ s p w f u i < lv_ s p w (cN s (594 + 6 * i + 4)) (cN s 2)
        · rw [if_pos hh]
          rw [Nat.max_eq_right (by omega)] at this
          exact this
        · rw [if_neg hh]
          rw [Nat.max_eq_left (by omega)] at this
          exact this
      · rw [if_neg h] at e9
        have := ih (i + 1) (some (.int (nI (cN s (594 + 6 * i + 4))))) (by omega)
        rw [e9] at this
        by_cases h1 : cN s (594 + 6 * i + 4) ≤ f
        · rw [gb_pos h1]; exact this
        · rw [gb_neg h1, gb_pos (by omega)]; exact this
  rw [c76, b76_0]
  simp (disch := omega) only [gq_true, gb_true, gb_false, true_and, and_true, eq_self, not_false_eq_true, not_true_eq_false, true_or, or_true, false_or, or_false, false_and, and_false, c0_v, ci_v, cl_v, cf_v, pk_mul, nI_add, nI_clamp, nI_lt0, nI_0le, nI_eq0, nI_lt0r, nI_ltE, nI_leE, nI_eqE, nI_m1, in_t, ba0, ba1, Nat.one_ne_zero, Nat.reduceEqDiff, Nat.reduceLeDiff, Nat.add_eq_zero_iff, ok0 hO]
  rw [x75 hO hV hC hA w p f hw hp hf, ci_v]
  exact step _ 0 _ (Nat.zero_add _)
end R43
