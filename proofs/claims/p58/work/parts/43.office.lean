/-! the class reads its office: days, assignments, advances, balances -/
theorem lgc_le (a b : Int64) : (lg_cmp a b ≤ 0) = (a ≤ b) := propext (by
  unfold lg_cmp
  by_cases h1 : a > b
  · rw [if_pos h1]; exact ⟨fun h => absurd h (by decide), fun h => absurd h1 (Int64.not_lt.mpr h)⟩
  · rw [if_neg h1]
    have h2 : a ≤ b := Int64.not_lt.mp h1
    by_cases h : a = b
    · rw [if_pos h]; exact ⟨fun _ => h2, fun _ => by decide⟩
    · rw [if_neg h]; exact ⟨fun _ => h2, fun _ => by decide⟩)
theorem lgc_lt (a b : Int64) : (lg_cmp a b < 0) = (a < b) := propext (by
  unfold lg_cmp
  by_cases h1 : a > b
  · rw [if_pos h1]; exact ⟨fun h => absurd h (by decide), fun h => absurd (Int64.lt_trans h h1) Int64.lt_irrefl⟩
  · rw [if_neg h1]
    by_cases h : a = b
    · rw [if_pos h, h]; exact ⟨fun h => absurd h (by decide), fun h => absurd h Int64.lt_irrefl⟩
    · rw [if_neg h]
      refine ⟨fun _ => ?_, fun _ => by decide⟩
      rw [Int64.lt_iff_toInt_lt]
      have h2 : a ≤ b := Int64.not_lt.mp h1
      rw [Int64.le_iff_toInt_le] at h2
      have h3 : a.toInt ≠ b.toInt := fun z => h (Int64.toInt_inj.mp z)
      omega)
def ea_ (t c n : Int32) : Int32 := if t < c ∧ (n = -1 ∨ c < n) then c else n
/-- the next of the days that are told by f, behind t -/
def nrev_ (s : Nat → Int32) : Nat → Int32 := fl_ (fun a n => ea_ (s 4) (s (594 + 6 * a + 5)) n) (-1)
def revs_ (s : Nat → Int32) (last : Int32) : Nat → Int32 := fl_ (fun a n => if s 4 < s (594 + 6 * a + 5) ∧ s (594 + 6 * a + 5) ≤ last then n + nI 1 else n) (nI 0)
def owed_ (s : Nat → Int32) (p : Int32) : Nat → Int32 := fl_ (fun a n => if s (690 + 6 * a + 1) = p then n + s (690 + 6 * a + 5) else n) (nI 0)
def fop_ (s : Nat → Int32) (p : Int32) : Nat := fst_ (fun a => decide (s (690 + 6 * a + 1) = p ∧ 0 < s (690 + 6 * a + 5))) (cN s 3) 0
/-- is an assignment in force -/
def isf_ (s : Nat → Int32) (a day : Nat) : Bool := decide (cN s (594 + 6 * a + 4) ≤ day ∧ day < cN s (594 + 6 * a + 5))
def mst_ (s : Nat → Int32) (p w f u : Nat) : Nat → Nat := fl_ (fun a n => if f < cN s (594 + 6 * a + 4) ∧ cN s (594 + 6 * a + 4) < u then max n (lv_ s p w (cN s (594 + 6 * a + 4)) (cN s 2)) else n) (lv_ s p w f (cN s 2))
theorem lv_s (s : Nat → Int32) (p w day n : Nat) : lv_ s p w day (n + 1) = lv_ s p w day n + (if cN s (594 + 6 * n + 0) = p ∧ cN s (594 + 6 * n + 1) = w ∧ cN s (594 + 6 * n + 4) ≤ day ∧ day < cN s (594 + 6 * n + 5) then cN s (594 + 6 * n + 3) else 0) := rfl
section R43
variable {sa sv d o : Nat} {m : am_M} {s : Nat → Int32} {q : Nat → Int64}
theorem xas (hO : OS m o) (hV : OV m o s q) (a c : Nat) (ha : a < 16) (hc : c < 6) : am_ca sa sv (d + 1) 127 [.ref (o + 13), .int (nI a), .int (nI c)] m = some (.inl (some (.int (s (594 + 6 * a + c)))), m) := by
  rw [tb_at (ot13 hO) (by omega) a c (by omega), show o + 13 + 1 = o + 14 from rfl, ov_as hV a c ha hc]
theorem xad (hO : OS m o) (hV : OV m o s q) (a c : Nat) (ha : a < 12) (hc : c < 6) : am_ca sa sv (d + 1) 127 [.ref (o + 15), .int (nI a), .int (nI c)] m = some (.inl (some (.int (s (690 + 6 * a + c)))), m) := by
  rw [tb_at (ot15 hO) (by omega) a c (by omega), show o + 15 + 1 = o + 16 from rfl, ov_ad hV a c ha hc]
theorem xli (hO : OS m o) (hV : OV m o s q) (hC : WC s) (i c : Nat) (hi : i < cN s 6) (hc : c < 4) : am_ca sa sv (d + 1) 127 [.ref (o + 17), .int (nI i), .int (nI c)] m = some (.inl (some (.int (s (767 + 4 * i + c)))), m) := by
  have := isN_lt (wc_nl hC) (by decide)
  rw [tb_at (ot17 hO) (by omega) i c (by omega), show o + 17 + 1 = o + 18 from rfl, ov_li hV i c hi hc]
theorem x73 (hO : OS m o) (hV : OV m o s q) (hC : WC s) (hA : WA s) (a day : Nat) (ha : a < cN s 2) (hd : day < 2 ^ 31) : am_ca sa sv (d + 2) 73 [.ref o, .int (nI a), .int (nI day)] m = some (.inl (some (.int (tr_ (isf_ s a day)))), m) := by
  have h16 := isN_lt (wc_na hC) (by decide)
  obtain ⟨e1, b1⟩ := (wa_f hA a ha).c (by decide)
  obtain ⟨e2, b2⟩ := (wa_u hA a ha).c (by decide)
  rw [c73, b73_0]
  simp (disch := omega) only [gq_true, gb_true, gb_false, true_and, and_true, eq_self, not_false_eq_true, not_true_eq_false, true_or, or_true, false_or, or_false, false_and, and_false, c0_v, ci_v, cl_v, cf_v, pk_mul, nI_add, nI_clamp, nI_lt0, nI_0le, nI_eq0, nI_lt0r, nI_ltE, nI_leE, nI_eqE, nI_m1, in_t, ba0, ba1, Nat.one_ne_zero, Nat.reduceEqDiff, Nat.reduceLeDiff, Nat.add_eq_zero_iff, ok0 hO, or0_2 hO, ok13 hO, xas hO hV a 4 (by omega) (by omega), xas hO hV a 5 (by omega) (by omega), e1, e2]
  unfold isf_
  by_cases h : cN s (594 + 6 * a + 4) ≤ day ∧ day < cN s (594 + 6 * a + 5)
  · rw [gb_neg (by omega), gb_neg (by omega), decide_eq_true h]; rfl
  · rw [decide_eq_false h]
    by_cases h1 : day < cN s (594 + 6 * a + 4)
    · rw [gb_pos h1]; rfl
    · rw [gb_neg h1, gb_pos (by omega)]; rfl
theorem x74 (hO : OS m o) (hV : OV m o s q) (hC : WC s) (hA : WA s) (a w p : Nat) (ha : a < cN s 2) (hw : w < 2 ^ 31) (hp : p < 2 ^ 31) : am_ca sa sv (d + 2) 74 [.ref o, .int (nI a), .int (nI w), .int (nI p)] m = some (.inl (some (.int (tr_ (decide (cN s (594 + 6 * a + 0) = p ∧ cN s (594 + 6 * a + 1) = w))))), m) := by
  have h16 := isN_lt (wc_na hC) (by decide)
  have h13 := isN_lt (wc_nw hC) (by decide)
  have h11 := isN_lt (wc_np hC) (by decide)
  obtain ⟨e1, b1⟩ := (wa_p hA a ha).c (by omega)
  obtain ⟨e2, b2⟩ := (wa_w hA a ha).c (by omega)
  rw [c74, b74_0]
  simp (disch := omega) only [gq_true, gb_true, gb_false, true_and, and_true, eq_self, not_false_eq_true, not_true_eq_false, true_or, or_true, false_or, or_false, false_and, and_false, c0_v, ci_v, cl_v, cf_v, pk_mul, nI_add, nI_clamp, nI_lt0, nI_0le, nI_eq0, nI_lt0r, nI_ltE, nI_leE, nI_eqE, nI_m1, in_t, ba0, ba1, Nat.one_ne_zero, Nat.reduceEqDiff, Nat.reduceLeDiff, Nat.add_eq_zero_iff, ok0 hO, or0_2 hO, ok13 hO, xas hO hV a 1 (by omega) (by omega), xas hO hV a 0 (by omega) (by omega), e1, e2]
  by_cases h : cN s (594 + 6 * a + 0) = p ∧ cN s (594 + 6 * a + 1) = w
  · rw [gb_pos (by omega), gb_pos (by omega), decide_eq_true h]; rfl
  · rw [decide_eq_false h]
    by_cases h1 : cN s (594 + 6 * a + 1) = w
    · rw [gb_pos h1, gb_neg (by omega)]; rfl
    · rw [gb_neg h1]; rfl
theorem x75 (hO : OS m o) (hV : OV m o s q) (hC : WC s) (hA : WA s) (w p day : Nat) (hw : w < 2 ^ 31) (hp : p < 2 ^ 31) (hd : day < 2 ^ 31) : am_ca sa sv (d + 3) 75 [.ref o, .int (nI w), .int (nI p), .int (nI day)] m = some (.inl (some (.int (nI (lv_ s p w day (cN s 2))))), m) := by
  obtain ⟨e0, b0⟩ := (wc_na hC).c (by decide)
  have H := lp_up (fun i => r75 sa sv (d + 2) 6 [some (.ref o), some (.int (nI w)), some (.int (nI p)), some (.int (nI day)), some (.int (nI (lv_ s p w day i))), some (.int (nI i))] [] m) (cN s 2) (fun i hi => by
    obtain ⟨e1, b1⟩ := (wa_c hA i hi).c (by decide)
    show r75 sa sv (d + 2) 6 _ [] m = _
    rw [b75_6]
    simp (disch := omega) only [gq_true, gb_true, gb_false, true_and, and_true, eq_self, not_false_eq_true, not_true_eq_false, true_or, or_true, false_or, or_false, false_and, and_false, c0_v, ci_v, cl_v, cf_v, pk_mul, nI_add, nI_clamp, nI_lt0, nI_0le, nI_eq0, nI_lt0r, nI_ltE, nI_leE, nI_eqE, nI_m1, in_t, ba0, ba1, Nat.one_ne_zero, Nat.reduceEqDiff, Nat.reduceLeDiff, Nat.add_eq_zero_iff, ok0 hO, or0_2 hO, ok13 hO, ov_na hV]
    rw [e0]
    simp (disch := omega) only [gq_true, gb_true, gb_false, true_and, and_true, eq_self, not_false_eq_true, not_true_eq_false, true_or, or_true, false_or, or_false, false_and, and_false, c0_v, ci_v, cl_v, cf_v, pk_mul, nI_add, nI_clamp, nI_lt0, nI_0le, nI_eq0, nI_lt0r, nI_ltE, nI_leE, nI_eqE, nI_m1, in_t, ba0, ba1, Nat.one_ne_zero, Nat.reduceEqDiff, Nat.reduceLeDiff, Nat.add_eq_zero_iff]
    rw [gb_neg (by omega), x74 hO hV hC hA i w p hi hw hp, ci_v, tr_0]
    by_cases h : cN s (594 + 6 * i + 0) = p ∧ cN s (594 + 6 * i + 1) = w
    · rw [gb_neg (by rw [decide_eq_true h]; decide), gq_pos (ok0 hO), x73 hO hV hC hA i day hi hd, ci_v, tr_0]
      unfold isf_
      by_cases h2 : cN s (594 + 6 * i + 4) ≤ day ∧ day < cN s (594 + 6 * i + 5)
      · rw [gb_neg (by rw [decide_eq_true h2]; decide)]
        simp (disch := omega) only [gq_true, gb_true, gb_false, true_and, and_true, eq_self, not_false_eq_true, not_true_eq_false, true_or, or_true, false_or, or_false, false_and, and_false, c0_v, ci_v, cl_v, cf_v, pk_mul, nI_add, nI_clamp, nI_lt0, nI_0le, nI_eq0, nI_lt0r, nI_ltE, nI_leE, nI_eqE, nI_m1, in_t, ba0, ba1, Nat.one_ne_zero, Nat.reduceEqDiff, Nat.reduceLeDiff, Nat.add_eq_zero_iff, ok0 hO, or0_2 hO, ok13 hO, xas hO hV i 3 (by omega) (by omega), e1]
        rw [lv_s, if_pos ⟨h.1, h.2, h2⟩]
      · rw [gb_pos (decide_eq_false h2), lv_s, if_neg (by rintro ⟨-, -, z⟩; exact h2 z)]
        rfl
    · rw [gb_pos (decide_eq_false h), lv_s, if_neg (by rintro ⟨z, z1, -⟩; exact h ⟨z, z1⟩)]
      rfl)
  rw [c75, b75_0]
  refine H.trans ?_
  show r75 sa sv (d + 2) 6 _ [] m = _
  rw [b75_6]
  simp (disch := omega) only [gq_true, gb_true, gb_false, true_and, and_true, eq_self, not_false_eq_true, not_true_eq_false, true_or, or_true, false_or, or_false, false_and, and_false, c0_v, ci_v, cl_v, cf_v, pk_mul, nI_add, nI_clamp, nI_lt0, nI_0le, nI_eq0, nI_lt0r, nI_ltE, nI_leE, nI_eqE, nI_m1, in_t, ba0, ba1, Nat.one_ne_zero, Nat.reduceEqDiff, Nat.reduceLeDiff, Nat.add_eq_zero_iff, ok0 hO, or0_2 hO, ok13 hO, ov_na hV]
  rw [e0]
  simp (disch := omega) only [gq_true, gb_true, gb_false, true_and, and_true, eq_self, not_false_eq_true, not_true_eq_false, true_or, or_true, false_or, or_false, false_and, and_false, c0_v, ci_v, cl_v, cf_v, pk_mul, nI_add, nI_clamp, nI_lt0, nI_0le, nI_eq0, nI_lt0r, nI_ltE, nI_leE, nI_eqE, nI_m1, in_t, ba0, ba1, Nat.one_ne_zero, Nat.reduceEqDiff, Nat.reduceLeDiff, Nat.add_eq_zero_iff, Nat.le_refl]
theorem x80 (t c n : Int32) : am_ca sa sv (d + 1) 80 [.int t, .int c, .int n] m = some (.inl (some (.int (ea_ t c n))), m) := by
  rw [c80, b80_0]
  unfold ea_
  by_cases h : t < c
  · rw [gb_neg (Int32.not_le.mpr h)]
    by_cases h1 : n = -1
    · rw [gb_pos h1, if_pos ⟨h, Or.inl h1⟩]
    · rw [gb_neg h1]
      by_cases h2 : c < n
      · rw [gb_neg (Int32.not_le.mpr h2), if_pos ⟨h, Or.inr h2⟩]
      · rw [gb_pos (Int32.not_lt.mp h2), if_neg (by rintro ⟨-, z | z⟩; exact h1 z; exact h2 z)]
  · rw [gb_pos (Int32.not_lt.mp h), if_neg (fun z => h z.1)]
theorem x77 (hO : OS m o) (hV : OV m o s q) (hC : WC s) : am_ca sa sv (d + 2) 77 [.ref o] m = some (.inl (some (.int (nrev_ s (cN s 2)))), m) := by
  obtain ⟨e0, b0⟩ := (wc_na hC).c (by decide)
  have H := lp_up (fun i => r77 sa sv (d + 1) 4 [some (.ref o), some (.int (nrev_ s i)), some (.int (nI i))] [] m) (cN s 2) (fun i hi => by
    show r77 sa sv (d + 1) 4 _ [] m = _
    rw [b77_4]
    simp (disch := omega) only [gq_true, gb_true, gb_false, true_and, and_true, eq_self, not_false_eq_true, not_true_eq_false, true_or, or_true, false_or, or_false, false_and, and_false, c0_v, ci_v, cl_v, cf_v, pk_mul, nI_add, nI_clamp, nI_lt0, nI_0le, nI_eq0, nI_lt0r, nI_ltE, nI_leE, nI_eqE, nI_m1, in_t, ba0, ba1, Nat.one_ne_zero, Nat.reduceEqDiff, Nat.reduceLeDiff, Nat.add_eq_zero_iff, ok0 hO, or0_2 hO, ok13 hO, ov_na hV]
    rw [e0]
    simp (disch := omega) only [gq_true, gb_true, gb_false, true_and, and_true, eq_self, not_false_eq_true, not_true_eq_false, true_or, or_true, false_or, or_false, false_and, and_false, c0_v, ci_v, cl_v, cf_v, pk_mul, nI_add, nI_clamp, nI_lt0, nI_0le, nI_eq0, nI_lt0r, nI_ltE, nI_leE, nI_eqE, nI_m1, in_t, ba0, ba1, Nat.one_ne_zero, Nat.reduceEqDiff, Nat.reduceLeDiff, Nat.add_eq_zero_iff]
    rw [gb_neg (by omega), xas hO hV i 5 (by omega) (by omega), ci_v, x80, ci_v, ov_day hV]
    rfl)
  rw [c77, b77_0]
  refine H.trans ?_
  show r77 sa sv (d + 1) 4 _ [] m = _
  rw [b77_4]
  simp (disch := omega) only [gq_true, gb_true, gb_false, true_and, and_true, eq_self, not_false_eq_true, not_true_eq_false, true_or, or_true, false_or, or_false, false_and, and_false, c0_v, ci_v, cl_v, cf_v, pk_mul, nI_add, nI_clamp, nI_lt0, nI_0le, nI_eq0, nI_lt0r, nI_ltE, nI_leE, nI_eqE, nI_m1, in_t, ba0, ba1, Nat.one_ne_zero, Nat.reduceEqDiff, Nat.reduceLeDiff, Nat.add_eq_zero_iff, ok0 hO, or0_2 hO, ok13 hO, ov_na hV]
  rw [e0]
  simp (disch := omega) only [gq_true, gb_true, gb_false, true_and, and_true, eq_self, not_false_eq_true, not_true_eq_false, true_or, or_true, false_or, or_false, false_and, and_false, c0_v, ci_v, cl_v, cf_v, pk_mul, nI_add, nI_clamp, nI_lt0, nI_0le, nI_eq0, nI_lt0r, nI_ltE, nI_leE, nI_eqE, nI_m1, in_t, ba0, ba1, Nat.one_ne_zero, Nat.reduceEqDiff, Nat.reduceLeDiff, Nat.add_eq_zero_iff, Nat.le_refl]
end R43
