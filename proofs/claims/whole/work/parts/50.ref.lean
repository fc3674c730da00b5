/-! the reference reads its rows -/
def RS (m : am_M) (N : Nat) (s : Nat → Int32) (q : Nat → Int64) : Prop := XS m N ∧ gi_ m (N + 245) = s ∧ gl_ m (N + 249) = q
theorem gi_siN {m : am_M} {a b k : Nat} {v : Int32} (h : ¬ b = a) : gi_ (si_ m a k v) b = gi_ m b := funext fun j => if_neg fun z => h z.1
theorem gl_slN {m : am_M} {a b k : Nat} {v : Int64} (h : ¬ b = a) : gl_ (sl_ m a k v) b = gl_ m b := funext fun j => if_neg fun z => h z.1
theorem XS.si {m : am_M} {N : Nat} (h : XS m N) {a k : Nat} {v : Int32} (h8 : ¬ a = N + 8) (h11 : ¬ a = N + 11) (h21 : ¬ a = N + 21) : XS (si_ m a k v) N := by
  refine ⟨h.1, h.2.1, fun x hx => ?_⟩
  have hx2 := h.2.2 x hx
  rw [gi_si, if_neg]
  · exact hx2
  · rintro ⟨z, -⟩
    simp only [xw_, List.mem_cons, List.mem_nil_iff, or_false] at hx
    rcases hx with rfl | rfl | rfl
    · exact h8 z.symm
    · exact h11 z.symm
    · exact h21 z.symm
theorem RS.c {m : am_M} {N : Nat} {s : Nat → Int32} {q : Nat → Int64} (h : RS m N s q) (k : Nat) (v : Int32) : RS (si_ m (N + 243) k v) N s q :=
  ⟨h.1.si (by omega) (by omega) (by omega), (gi_siN (by omega)).trans h.2.1, h.2.2⟩
theorem lgc_gt (a b : Int64) : (0 < lg_cmp a b) = (b < a) := propext (by
  rw [← Int32.not_le, lgc_le, Int64.not_le])
theorem yin (p : Int32) (c : Int64) (n : Nat) (hc : c.toInt = (n : Int) - 1) : decide ((0 : Int64) ≤ p.toInt64 ∧ p.toInt64 ≤ c) = inR p n := by
  unfold inR
  refine decide_eq_decide.mpr ?_
  rw [Int64.le_iff_toInt_le, Int64.le_iff_toInt_le, Int32.toInt_toInt64, hc, show (0 : Int64).toInt = 0 by decide]
  omega
theorem yinN (p : Int32) (n : Nat) (hn : n < 2 ^ 30) : decide ((0 : Int64) ≤ p.toInt64 ∧ p.toInt64 ≤ (nI n - nI 1).toInt64) = inR p n :=
  yin p _ n (by rw [Int32.toInt_toInt64, pk_sub_toInt (by omega) (by omega)]; rfl)
section R50
variable {sa sv d N : Nat} {m : am_M} {s : Nat → Int32} {q : Nat → Int64}
theorem rk243 (h : RS m N s q) : gk_ m (N + 243) = (1, 11) := xk243 h.1
theorem rk245 (h : RS m N s q) : gk_ m (N + 245) = (2, 1023) := xk245 h.1
theorem rk249 (h : RS m N s q) : gk_ m (N + 249) = (4, 484) := xk249 h.1
theorem rr15 (h : RS m N s q) : gr_ m (N + 243) 15 = N + 245 := xr243_15 h.1
theorem rr19 (h : RS m N s q) : gr_ m (N + 243) 19 = N + 249 := xr243_19 h.1
theorem rs (h : RS m N s q) (k : Nat) : gi_ m (N + 245) k = s k := congrFun h.2.1 k
theorem rq (h : RS m N s q) (k : Nat) : gl_ m (N + 249) k = q k := congrFun h.2.2 k
theorem y222 (a b c : Int64) : am_ca sa sv (d + 1) 222 [.long a, .long b, .long c] m = some (.inl (some (.int (tr_ (decide (b ≤ a ∧ a ≤ c))))), m) := by
  rw [c222, b222_0, lgc_lt, lgc_gt]
  simp (disch := omega) only [gq_true, gb_true, gb_false, true_and, and_true, eq_self, not_false_eq_true, not_true_eq_false, true_or, or_true, false_or, or_false, false_and, and_false, c0_v, ci_v, cl_v, cf_v, pk_mul, nI_add, nI_clamp, nI_lt0, nI_0le, nI_eq0, nI_lt0r, nI_ltE, nI_leE, nI_eqE, nI_m1, in_t, ba0, ba1, Nat.one_ne_zero, Nat.reduceEqDiff, Nat.reduceLeDiff, Nat.add_eq_zero_iff]
  by_cases h : b ≤ a ∧ a ≤ c
  · rw [gb_neg (Int64.not_lt.mpr h.1), gb_neg (Int64.not_lt.mpr h.2), decide_eq_true h]; rfl
  · rw [decide_eq_false h]
    by_cases h1 : a < b
    · rw [gb_pos h1]; rfl
    · rw [gb_neg h1, gb_pos (Int64.not_le.mp fun z => h ⟨Int64.not_lt.mp h1, z⟩)]; rfl
theorem y223 (b : Bool) : am_ca sa sv (d + 1) 223 [.int (tr_ b)] m = some (.inl (some (.int (tr_ b))), m) := by
  rw [c223, b223_0, tr_0]
  cases b
  · rw [gb_pos rfl]; rfl
  · rw [gb_neg (by decide)]; rfl
theorem y225 (hR : RS m N s q) (b : Bool) : am_ca sa sv (d + 2) 225 [.ref (N + 243), .int (tr_ b)] m = some (.inl (some (.int (tr_ b))), si_ m (N + 243) 0 (tr_ (!b))) := by
  rw [c225, b225_0, tr_0, show (nI 1) = tr_ true from rfl, show (nI 0) = tr_ false from rfl, y223, y223]
  cases b
  · rw [gb_pos rfl, ci_v, gq_pos (rk243 hR), tr_ba, gq_true]; rfl
  · rw [gb_neg (by decide), ci_v, gq_pos (rk243 hR), tr_ba, gq_true]; rfl
def cd2_ (a b : Bool) : Nat := bif a then (bif b then 0 else 2) else 1
theorem y226 (hR : RS m N s q) (a b : Bool) : am_ca sa sv (d + 1) 226 [.ref (N + 243), .int (tr_ a), .int (tr_ b)] m = some (.inl (some (.int (tr_ (a && b)))), si_ m (N + 243) 0 (nI (cd2_ a b))) := by
  rw [c226, b226_0, tr_0, tr_0]
  cases a
  · simp (disch := omega) only [gq_true, gb_true, gb_false, true_and, and_true, eq_self, not_false_eq_true, not_true_eq_false, true_or, or_true, false_or, or_false, false_and, and_false, c0_v, ci_v, cl_v, cf_v, pk_mul, nI_add, nI_clamp, nI_lt0, nI_0le, nI_eq0, nI_lt0r, nI_ltE, nI_leE, nI_eqE, nI_m1, in_t, ba0, ba1, Nat.one_ne_zero, Nat.reduceEqDiff, Nat.reduceLeDiff, Nat.add_eq_zero_iff, rk243 hR, gi_si, and_self, if_true]
    cases b <;> rfl
  · cases b
    · rw [gb_neg (by decide), gb_pos rfl]
      simp (disch := omega) only [gq_true, gb_true, gb_false, true_and, and_true, eq_self, not_false_eq_true, not_true_eq_false, true_or, or_true, false_or, or_false, false_and, and_false, c0_v, ci_v, cl_v, cf_v, pk_mul, nI_add, nI_clamp, nI_lt0, nI_0le, nI_eq0, nI_lt0r, nI_ltE, nI_leE, nI_eqE, nI_m1, in_t, ba0, ba1, Nat.one_ne_zero, Nat.reduceEqDiff, Nat.reduceLeDiff, Nat.add_eq_zero_iff, rk243 hR, gi_si, and_self, if_true]
      rfl
    · rw [gb_neg (by decide), gb_neg (by decide)]
      simp (disch := omega) only [gq_true, gb_true, gb_false, true_and, and_true, eq_self, not_false_eq_true, not_true_eq_false, true_or, or_true, false_or, or_false, false_and, and_false, c0_v, ci_v, cl_v, cf_v, pk_mul, nI_add, nI_clamp, nI_lt0, nI_0le, nI_eq0, nI_lt0r, nI_ltE, nI_leE, nI_eqE, nI_m1, in_t, ba0, ba1, Nat.one_ne_zero, Nat.reduceEqDiff, Nat.reduceLeDiff, Nat.add_eq_zero_iff, rk243 hR, gi_si, and_self, if_true]
      rfl
theorem y256 (hR : RS m N s q) (w k j : Nat) (hj : 18 + 48 * w + k = j) (hb : j < 1023) : am_ca sa sv (d + 1) 256 [.ref (N + 243), .int (nI w), .int (nI k)] m = some (.inl (some (.int (s j))), m) := by
  subst hj
  rw [c256, b256_0]
  simp (disch := omega) only [gq_true, gb_true, gb_false, true_and, and_true, eq_self, not_false_eq_true, not_true_eq_false, true_or, or_true, false_or, or_false, false_and, and_false, c0_v, ci_v, cl_v, cf_v, pk_mul, nI_add, nI_clamp, nI_lt0, nI_0le, nI_eq0, nI_lt0r, nI_ltE, nI_leE, nI_eqE, nI_m1, in_t, ba0, ba1, Nat.one_ne_zero, Nat.reduceEqDiff, Nat.reduceLeDiff, Nat.add_eq_zero_iff, rk243 hR, rr15 hR, rk245 hR, rr19 hR, rk249 hR, rs hR, rq hR]
theorem y257 (hR : RS m N s q) (a c : Nat) (hb : 594 + 6 * a + c < 1023) : am_ca sa sv (d + 1) 257 [.ref (N + 243), .int (nI a), .int (nI c)] m = some (.inl (some (.int (s (594 + 6 * a + c)))), m) := by
  rw [c257, b257_0]
  simp (disch := omega) only [gq_true, gb_true, gb_false, true_and, and_true, eq_self, not_false_eq_true, not_true_eq_false, true_or, or_true, false_or, or_false, false_and, and_false, c0_v, ci_v, cl_v, cf_v, pk_mul, nI_add, nI_clamp, nI_lt0, nI_0le, nI_eq0, nI_lt0r, nI_ltE, nI_leE, nI_eqE, nI_m1, in_t, ba0, ba1, Nat.one_ne_zero, Nat.reduceEqDiff, Nat.reduceLeDiff, Nat.add_eq_zero_iff, rk243 hR, rr15 hR, rk245 hR, rr19 hR, rk249 hR, rs hR, rq hR]
theorem y258 (hR : RS m N s q) (a c : Nat) (hb : 690 + 6 * a + c < 1023) : am_ca sa sv (d + 1) 258 [.ref (N + 243), .int (nI a), .int (nI c)] m = some (.inl (some (.int (s (690 + 6 * a + c)))), m) := by
  rw [c258, b258_0]
  simp (disch := omega) only [gq_true, gb_true, gb_false, true_and, and_true, eq_self, not_false_eq_true, not_true_eq_false, true_or, or_true, false_or, or_false, false_and, and_false, c0_v, ci_v, cl_v, cf_v, pk_mul, nI_add, nI_clamp, nI_lt0, nI_0le, nI_eq0, nI_lt0r, nI_ltE, nI_leE, nI_eqE, nI_m1, in_t, ba0, ba1, Nat.one_ne_zero, Nat.reduceEqDiff, Nat.reduceLeDiff, Nat.add_eq_zero_iff, rk243 hR, rr15 hR, rk245 hR, rr19 hR, rk249 hR, rs hR, rq hR]
theorem y285 (hR : RS m N s q) (hC : WC s) (p : Int32) : am_ca sa sv (d + 2) 285 [.ref (N + 243), .int p] m = some (.inl (some (.int (tr_ (inR p (cN s 0))))), m) := by
  obtain ⟨e0, b0⟩ := (wc_np hC).c (by decide)
  rw [c285, b285_0]
  simp (disch := omega) only [gq_true, gb_true, gb_false, true_and, and_true, eq_self, not_false_eq_true, not_true_eq_false, true_or, or_true, false_or, or_false, false_and, and_false, c0_v, ci_v, cl_v, cf_v, pk_mul, nI_add, nI_clamp, nI_lt0, nI_0le, nI_eq0, nI_lt0r, nI_ltE, nI_leE, nI_eqE, nI_m1, in_t, ba0, ba1, Nat.one_ne_zero, Nat.reduceEqDiff, Nat.reduceLeDiff, Nat.add_eq_zero_iff, rk243 hR, rr15 hR, rk245 hR, rr19 hR, rk249 hR, rs hR, rq hR]
  rw [e0, y222, yinN _ _ (by omega), ci_v, tr_ba, gq_true]
theorem y286 (hR : RS m N s q) (hC : WC s) (p : Int32) : am_ca sa sv (d + 2) 286 [.ref (N + 243), .int p] m = some (.inl (some (.int (tr_ (inR p (cN s 1))))), m) := by
  obtain ⟨e0, b0⟩ := (wc_nw hC).c (by decide)
  rw [c286, b286_0]
  simp (disch := omega) only [gq_true, gb_true, gb_false, true_and, and_true, eq_self, not_false_eq_true, not_true_eq_false, true_or, or_true, false_or, or_false, false_and, and_false, c0_v, ci_v, cl_v, cf_v, pk_mul, nI_add, nI_clamp, nI_lt0, nI_0le, nI_eq0, nI_lt0r, nI_ltE, nI_leE, nI_eqE, nI_m1, in_t, ba0, ba1, Nat.one_ne_zero, Nat.reduceEqDiff, Nat.reduceLeDiff, Nat.add_eq_zero_iff, rk243 hR, rr15 hR, rk245 hR, rr19 hR, rk249 hR, rs hR, rq hR]
  rw [e0, y222, yinN _ _ (by omega), ci_v, tr_ba, gq_true]
theorem y287 (hR : RS m N s q) (hC : WC s) (p : Int32) : am_ca sa sv (d + 2) 287 [.ref (N + 243), .int p] m = some (.inl (some (.int (tr_ (inR p (cN s 2))))), m) := by
  obtain ⟨e0, b0⟩ := (wc_na hC).c (by decide)
  rw [c287, b287_0]
  simp (disch := omega) only [gq_true, gb_true, gb_false, true_and, and_true, eq_self, not_false_eq_true, not_true_eq_false, true_or, or_true, false_or, or_false, false_and, and_false, c0_v, ci_v, cl_v, cf_v, pk_mul, nI_add, nI_clamp, nI_lt0, nI_0le, nI_eq0, nI_lt0r, nI_ltE, nI_leE, nI_eqE, nI_m1, in_t, ba0, ba1, Nat.one_ne_zero, Nat.reduceEqDiff, Nat.reduceLeDiff, Nat.add_eq_zero_iff, rk243 hR, rr15 hR, rk245 hR, rr19 hR, rk249 hR, rs hR, rq hR]
  rw [e0, y222, yinN _ _ (by omega), ci_v, tr_ba, gq_true]
theorem y288 (hR : RS m N s q) (hC : WC s) (p : Int32) : am_ca sa sv (d + 2) 288 [.ref (N + 243), .int p] m = some (.inl (some (.int (tr_ (inR p (cN s 3))))), m) := by
  obtain ⟨e0, b0⟩ := (wc_nd hC).c (by decide)
  rw [c288, b288_0]
  simp (disch := omega) only [gq_true, gb_true, gb_false, true_and, and_true, eq_self, not_false_eq_true, not_true_eq_false, true_or, or_true, false_or, or_false, false_and, and_false, c0_v, ci_v, cl_v, cf_v, pk_mul, nI_add, nI_clamp, nI_lt0, nI_0le, nI_eq0, nI_lt0r, nI_ltE, nI_leE, nI_eqE, nI_m1, in_t, ba0, ba1, Nat.one_ne_zero, Nat.reduceEqDiff, Nat.reduceLeDiff, Nat.add_eq_zero_iff, rk243 hR, rr15 hR, rk245 hR, rr19 hR, rk249 hR, rs hR, rq hR]
  rw [e0, y222, yinN _ _ (by omega), ci_v, tr_ba, gq_true]
theorem y277 (hR : RS m N s q) (hC : WC s) (hA : WA s) (a day : Nat) (ha : a < cN s 2) (hd : day < 2 ^ 31) : am_ca sa sv (d + 2) 277 [.ref (N + 243), .int (nI a), .int (nI day)] m = some (.inl (some (.int (tr_ (isf_ s a day)))), m) := by
  have h16 := isN_lt (wc_na hC) (by decide)
  obtain ⟨e1, b1⟩ := (wa_f hA a ha).c (by decide)
  obtain ⟨e2, b2⟩ := (wa_u hA a ha).c (by decide)
  rw [c277, b277_0]
  simp (disch := omega) only [gq_true, gb_true, gb_false, true_and, and_true, eq_self, not_false_eq_true, not_true_eq_false, true_or, or_true, false_or, or_false, false_and, and_false, c0_v, ci_v, cl_v, cf_v, pk_mul, nI_add, nI_clamp, nI_lt0, nI_0le, nI_eq0, nI_lt0r, nI_ltE, nI_leE, nI_eqE, nI_m1, in_t, ba0, ba1, Nat.one_ne_zero, Nat.reduceEqDiff, Nat.reduceLeDiff, Nat.add_eq_zero_iff, rk243 hR, rr15 hR, rk245 hR, rr19 hR, rk249 hR, rs hR, rq hR, y257 hR a 4 (by omega), y257 hR a 5 (by omega), e1, e2]
  unfold isf_
  by_cases h : cN s (594 + 6 * a + 4) ≤ day ∧ day < cN s (594 + 6 * a + 5)
  · rw [gb_neg (by omega), gb_neg (by omega), decide_eq_true h]; rfl
  · rw [decide_eq_false h]
    by_cases h1 : day < cN s (594 + 6 * a + 4)
    · rw [gb_pos h1]; rfl
    · rw [gb_neg h1, gb_pos (by omega)]; rfl
theorem y276 (hR : RS m N s q) (hC : WC s) (hA : WA s) (p w day : Nat) (hw : w < 2 ^ 31) (hp : p < 2 ^ 31) (hd : day < 2 ^ 31) : am_ca sa sv (d + 3) 276 [.ref (N + 243), .int (nI p), .int (nI w), .int (nI day)] m = some (.inl (some (.int (nI (lv_ s p w day (cN s 2))))), m) := by
  obtain ⟨e0, b0⟩ := (wc_na hC).c (by decide)
  obtain ⟨-, c0⟩ := (wc_np hC).c (by decide)
  obtain ⟨-, c1⟩ := (wc_nw hC).c (by decide)
  have H := lp_up (fun i => r276 sa sv (d + 2) 6 [some (.ref (N + 243)), some (.int (nI p)), some (.int (nI w)), some (.int (nI day)), some (.int (nI (lv_ s p w day i))), some (.int (nI i))] [] m) (cN s 2) (fun i hi => by
    obtain ⟨e1, b1⟩ := (wa_c hA i hi).c (by decide)
    obtain ⟨e2, b2⟩ := (wa_p hA i hi).c (by omega)
    obtain ⟨e3, b3⟩ := (wa_w hA i hi).c (by omega)
    show r276 sa sv (d + 2) 6 _ [] m = _
    rw [b276_6]
    simp (disch := omega) only [gq_true, gb_true, gb_false, true_and, and_true, eq_self, not_false_eq_true, not_true_eq_false, true_or, or_true, false_or, or_false, false_and, and_false, c0_v, ci_v, cl_v, cf_v, pk_mul, nI_add, nI_clamp, nI_lt0, nI_0le, nI_eq0, nI_lt0r, nI_ltE, nI_leE, nI_eqE, nI_m1, in_t, ba0, ba1, Nat.one_ne_zero, Nat.reduceEqDiff, Nat.reduceLeDiff, Nat.add_eq_zero_iff, rk243 hR, rr15 hR, rk245 hR, rr19 hR, rk249 hR, rs hR, rq hR]
    rw [e0]
    simp (disch := omega) only [gq_true, gb_true, gb_false, true_and, and_true, eq_self, not_false_eq_true, not_true_eq_false, true_or, or_true, false_or, or_false, false_and, and_false, c0_v, ci_v, cl_v, cf_v, pk_mul, nI_add, nI_clamp, nI_lt0, nI_0le, nI_eq0, nI_lt0r, nI_ltE, nI_leE, nI_eqE, nI_m1, in_t, ba0, ba1, Nat.one_ne_zero, Nat.reduceEqDiff, Nat.reduceLeDiff, Nat.add_eq_zero_iff, y257 hR i 0 (by omega), e2, y257 hR i 1 (by omega), e3, y277 hR hC hA i day hi hd, tr_0, rk243 hR, y257 hR i 3 (by omega), e1]
    rw [gb_neg (by omega), lv_s]
    by_cases h : cN s (594 + 6 * i + 0) = p
    · rw [gb_pos h]
      by_cases h1 : cN s (594 + 6 * i + 1) = w
      · rw [gb_pos h1]
        unfold isf_
        by_cases h2 : cN s (594 + 6 * i + 4) ≤ day ∧ day < cN s (594 + 6 * i + 5)
        · rw [gb_neg (by rw [decide_eq_true h2]; decide), if_pos ⟨h, h1, h2⟩]
        · rw [gb_pos (decide_eq_false h2), if_neg (by rintro ⟨-, -, z⟩; exact h2 z)]
      · rw [gb_neg h1, if_neg (by rintro ⟨-, z, -⟩; exact h1 z)]
    · rw [gb_neg h, if_neg (by rintro ⟨z, -, -⟩; exact h z)])
  rw [c276, b276_0]
  refine H.trans ?_
  show r276 sa sv (d + 2) 6 _ [] m = _
  rw [b276_6]
  simp (disch := omega) only [gq_true, gb_true, gb_false, true_and, and_true, eq_self, not_false_eq_true, not_true_eq_false, true_or, or_true, false_or, or_false, false_and, and_false, c0_v, ci_v, cl_v, cf_v, pk_mul, nI_add, nI_clamp, nI_lt0, nI_0le, nI_eq0, nI_lt0r, nI_ltE, nI_leE, nI_eqE, nI_m1, in_t, ba0, ba1, Nat.one_ne_zero, Nat.reduceEqDiff, Nat.reduceLeDiff, Nat.add_eq_zero_iff, rk243 hR, rr15 hR, rk245 hR, rr19 hR, rk249 hR, rs hR, rq hR]
  rw [e0]
  simp (disch := omega) only [gq_true, gb_true, gb_false, true_and, and_true, eq_self, not_false_eq_true, not_true_eq_false, true_or, or_true, false_or, or_false, false_and, and_false, c0_v, ci_v, cl_v, cf_v, pk_mul, nI_add, nI_clamp, nI_lt0, nI_0le, nI_eq0, nI_lt0r, nI_ltE, nI_leE, nI_eqE, nI_m1, in_t, ba0, ba1, Nat.one_ne_zero, Nat.reduceEqDiff, Nat.reduceLeDiff, Nat.add_eq_zero_iff, Nat.le_refl]
theorem y307 (hR : RS m N s q) (hC : WC s) (p : Int32) : am_ca sa sv (d + 2) 307 [.ref (N + 243), .int p] m = some (.inl (some (.int (owed_ s p (cN s 3)))), m) := by
  obtain ⟨e0, b0⟩ := (wc_nd hC).c (by decide)
  have H := lp_up (fun i => r307 sa sv (d + 1) 4 [some (.ref (N + 243)), some (.int p), some (.int (owed_ s p i)), some (.int (nI i))] [] m) (cN s 3) (fun i hi => by
    show r307 sa sv (d + 1) 4 _ [] m = _
    have e9 : owed_ s p (i + 1) = if s (690 + 6 * i + 1) = p then owed_ s p i + s (690 + 6 * i + 5) else owed_ s p i := rfl
    rw [b307_4]
    simp (disch := omega) only [gq_true, gb_true, gb_false, true_and, and_true, eq_self, not_false_eq_true, not_true_eq_false, true_or, or_true, false_or, or_false, false_and, and_false, c0_v, ci_v, cl_v, cf_v, pk_mul, nI_add, nI_clamp, nI_lt0, nI_0le, nI_eq0, nI_lt0r, nI_ltE, nI_leE, nI_eqE, nI_m1, in_t, ba0, ba1, Nat.one_ne_zero, Nat.reduceEqDiff, Nat.reduceLeDiff, Nat.add_eq_zero_iff, rk243 hR, rr15 hR, rk245 hR, rr19 hR, rk249 hR, rs hR, rq hR]
    rw [e0]
    simp (disch := omega) only [gq_true, gb_true, gb_false, true_and, and_true, eq_self, not_false_eq_true, not_true_eq_false, true_or, or_true, false_or, or_false, false_and, and_false, c0_v, ci_v, cl_v, cf_v, pk_mul, nI_add, nI_clamp, nI_lt0, nI_0le, nI_eq0, nI_lt0r, nI_ltE, nI_leE, nI_eqE, nI_m1, in_t, ba0, ba1, Nat.one_ne_zero, Nat.reduceEqDiff, Nat.reduceLeDiff, Nat.add_eq_zero_iff, y258 hR i 1 (by omega), y258 hR i 5 (by omega)]
    rw [gb_neg (by omega)]
    by_cases h : s (690 + 6 * i + 1) = p
    · rw [gb_pos h, e9, if_pos h, gq_pos (rk243 hR)]
    · rw [gb_neg h, e9, if_neg h, show owed_ s p i + nI 0 = owed_ s p i from Int32.add_zero _])
  rw [c307, b307_0]
  refine H.trans ?_
  show r307 sa sv (d + 1) 4 _ [] m = _
  rw [b307_4]
  simp (disch := omega) only [gq_true, gb_true, gb_false, true_and, and_true, eq_self, not_false_eq_true, not_true_eq_false, true_or, or_true, false_or, or_false, false_and, and_false, c0_v, ci_v, cl_v, cf_v, pk_mul, nI_add, nI_clamp, nI_lt0, nI_0le, nI_eq0, nI_lt0r, nI_ltE, nI_leE, nI_eqE, nI_m1, in_t, ba0, ba1, Nat.one_ne_zero, Nat.reduceEqDiff, Nat.reduceLeDiff, Nat.add_eq_zero_iff, rk243 hR, rr15 hR, rk245 hR, rr19 hR, rk249 hR, rs hR, rq hR]
  rw [e0]
  simp (disch := omega) only [gq_true, gb_true, gb_false, true_and, and_true, eq_self, not_false_eq_true, not_true_eq_false, true_or, or_true, false_or, or_false, false_and, and_false, c0_v, ci_v, cl_v, cf_v, pk_mul, nI_add, nI_clamp, nI_lt0, nI_0le, nI_eq0, nI_lt0r, nI_ltE, nI_leE, nI_eqE, nI_m1, in_t, ba0, ba1, Nat.one_ne_zero, Nat.reduceEqDiff, Nat.reduceLeDiff, Nat.add_eq_zero_iff, Nat.le_refl]
theorem y317 (hR : RS m N s q) (p : Nat) (hp : p < 10) : am_ca sa sv (d + 1) 317 [.ref (N + 243), .int (nI p)] m = some (.inl (some (.int (tr_ (paid_ s q p)))), m) := by
  rw [c317, b317_0, lgc_le, lgc_lt]
  simp (disch := omega) only [gq_true, gb_true, gb_false, true_and, and_true, eq_self, not_false_eq_true, not_true_eq_false, true_or, or_true, false_or, or_false, false_and, and_false, c0_v, ci_v, cl_v, cf_v, pk_mul, nI_add, nI_clamp, nI_lt0, nI_0le, nI_eq0, nI_lt0r, nI_ltE, nI_leE, nI_eqE, nI_m1, in_t, ba0, ba1, Nat.one_ne_zero, Nat.reduceEqDiff, Nat.reduceLeDiff, Nat.add_eq_zero_iff, rk243 hR, rr15 hR, rk245 hR, rr19 hR, rk249 hR, rs hR, rq hR, Nat.zero_add]
  unfold paid_
  by_cases h : 0 < q p ∧ (s (8 + p)).toInt64 ≤ q p
  · rw [gb_neg (Int64.not_le.mpr h.1), gb_neg (Int64.not_lt.mpr h.2), decide_eq_true h]; rfl
  · rw [decide_eq_false h]
    by_cases h1 : q p ≤ 0
    · rw [gb_pos h1]; rfl
    · rw [gb_neg h1, gb_pos (Int64.not_le.mp fun z => h ⟨Int64.not_le.mp h1, z⟩)]; rfl
end R50
