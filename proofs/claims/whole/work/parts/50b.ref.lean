/-! the reference reads its rows: splits, shares, roots -/
theorem fst_spec (p : Nat → Bool) : ∀ n i, (fst_ p n i = i + n ∧ ∀ t, i ≤ t → t < i + n → p t = false) ∨ (i ≤ fst_ p n i ∧ fst_ p n i < i + n ∧ p (fst_ p n i) = true ∧ ∀ t, i ≤ t → t < fst_ p n i → p t = false) := by
  intro n
  induction n with
  | zero => exact fun i => Or.inl ⟨rfl, fun t h1 h2 => by omega⟩
  | succ n ih =>
    intro i
    cases h : p i with
    | true =>
      rw [fst_s h]
      exact Or.inr ⟨Nat.le_refl _, by omega, h, fun t h1 h2 => by omega⟩
    | false =>
      rw [fst_n h]
      rcases ih (i + 1) with ⟨h1, h2⟩ | ⟨h1, h2, h3, h4⟩
      · refine Or.inl ⟨by omega, fun t ht ht2 => ?_⟩
        by_cases e : t = i
        · rw [e]; exact h
        · exact h2 t (by omega) (by omega)
      · refine Or.inr ⟨by omega, by omega, h3, fun t ht ht2 => ?_⟩
        by_cases e : t = i
        · rw [e]; exact h
        · exact h4 t (by omega) (by omega)
/-- the last that matches is the first, where at most one does -/
theorem fl_fst {α : Type} (p : Nat → Bool) (f : Nat → α) (z : α) (n : Nat) (h1 : ∀ i j, i < j → j < n → p i = true → p j = true → False) : fl_ (fun j acc => if p j = true then f j else acc) z n = if fst_ p n 0 < n then f (fst_ p n 0) else z := by
  have key : ∀ k, k ≤ n → fl_ (fun j acc => if p j = true then f j else acc) z k = if fst_ p n 0 < k then f (fst_ p n 0) else z := by
    intro k
    induction k with
    | zero => exact fun _ => rfl
    | succ k ih =>
      intro hk
      rw [fl_s, ih (by omega)]
      rcases fst_spec p n 0 with ⟨a1, a2⟩ | ⟨a1, a2, a3, a4⟩
      · rw [if_neg (by rw [a2 k (by omega) (by omega)]; decide), if_neg (by omega), if_neg (by omega)]
      · by_cases e : fst_ p n 0 = k
        · rw [if_pos (by rw [← e]; exact a3), if_pos (by omega), e]
        · by_cases e2 : fst_ p n 0 < k
          · rw [if_neg (fun z => h1 _ _ e2 (by omega) a3 z), if_pos e2, if_pos (by omega)]
          · rw [if_neg (by rw [a4 k (by omega) (by omega)]; decide), if_neg e2, if_neg (by omega)]
  exact key n (Nat.le_refl n)
theorem rt_or {s : Nat → Int32} (w : Nat) : ∀ v x, v ≤ w → rt_ s v (2 ^ w ||| x) = 2 ^ w ||| rt_ s v x := by
  intro v
  induction v with
  | zero => exact fun _ _ => rfl
  | succ v ih =>
    intro x hv
    have hb : (2 ^ w ||| x).testBit v = x.testBit v := by
      rw [Nat.testBit_or, Nat.testBit_two_pow, decide_eq_false (by omega), Bool.false_or]
    rw [rt_, rt_, hb]
    cases x.testBit v with
    | false => exact ih _ (by omega)
    | true =>
      show rt_ s v (2 ^ w ||| x ||| so_ s v) = _
      rw [Nat.or_assoc]
      exact ih _ (by omega)
theorem rt_lt {s : Nat → Int32} (hC : WC s) (hW : WW s) (w : Nat) (hw : w < cN s 1) : ∀ v x, v ≤ w → x < 2 ^ w → rt_ s v x < 2 ^ w := by
  intro v
  induction v with
  | zero => exact fun x _ h => h
  | succ v ih =>
    intro x hv h
    refine ih _ (by omega) ?_
    cases x.testBit v with
    | false => exact h
    | true => exact Nat.or_lt_two_pow h (Nat.lt_of_lt_of_le (so_lt hC hW (by omega)) (Nat.pow_le_pow_right (by decide) (by omega)))
theorem rts_lt {s : Nat → Int32} (hC : WC s) (hW : WW s) {w : Nat} (hw : w < cN s 1) : rts_ s w < 2 ^ w := rt_lt hC hW w hw w _ (Nat.le_refl w) (so_lt hC hW hw)
theorem rt_ref {s : Nat → Int32} (hC : WC s) (hW : WW s) {w : Nat} (hw : w < cN s 1) : rt_ s (w + 1) (2 ^ w) - 2 ^ w = rts_ s w := by
  have hb : (2 ^ w).testBit w = true := by rw [Nat.testBit_two_pow]; exact decide_eq_true rfl
  have e : rt_ s (w + 1) (2 ^ w) = rt_ s w (2 ^ w ||| so_ s w) := by rw [rt_, hb]; rfl
  rw [e, rt_or w w _ (Nat.le_refl w)]
  show (2 ^ w ||| rts_ s w) - 2 ^ w = rts_ s w
  have h := rts_lt hC hW hw
  have e2 := Nat.two_pow_add_eq_or_of_lt h 1
  rw [Nat.mul_one] at e2
  rw [← e2]
  omega
section R50
variable {sa sv d N : Nat} {m : am_M} {s : Nat → Int32} {q : Nat → Int64}
theorem y292 (hR : RS m N s q) (hC : WC s) (hW : WW s) (w day : Nat) (hw : w < cN s 1) (hd : day < 2 ^ 31) : am_ca sa sv (d + 2) 292 [.ref (N + 243), .int (nI w), .int (nI day)] m = some (.inl (some (.int (nI (spl_ s w day)))), m) := by
  obtain ⟨-, b0⟩ := (wc_nw hC).c (by decide)
  obtain ⟨h1, h2⟩ := ww_ns hW w hw
  obtain ⟨e1, b1⟩ := h1.c (by decide)
  have h00 : decide (cN s (19 + 48 * w + 0) ≤ day) = true := decide_eq_true (by rw [show 19 + 48 * w + 0 = 19 + 48 * w from rfl, cN_ (ww_d0 hW w hw) (by decide)]; omega)
  have step : ∀ v, v + 1 ≤ cN s (18 + 48 * w) → r292 sa sv (d + 1) 9 [some (.ref (N + 243)), some (.int (nI w)), some (.int (nI day)), some (.int (nI v))] [] m = some (.inl (some (.int (nI (lst_ (fun k => decide (cN s (19 + 48 * w + k) ≤ day)) (v + 1))))), m) := by
    intro v
    induction v with
    | zero =>
      intro _
      obtain ⟨e2, b2⟩ := (ww_dk hW w 0 hw (by omega)).c (by decide)
      rw [b292_9]
      simp (disch := omega) only [gq_true, gb_true, gb_false, true_and, and_true, eq_self, not_false_eq_true, not_true_eq_false, true_or, or_true, false_or, or_false, false_and, and_false, c0_v, ci_v, cl_v, cf_v, pk_mul, nI_add, nI_clamp, nI_lt0, nI_0le, nI_eq0, nI_lt0r, nI_ltE, nI_leE, nI_eqE, nI_m1, in_t, ba0, ba1, Nat.one_ne_zero, Nat.reduceEqDiff, Nat.reduceLeDiff, Nat.add_eq_zero_iff, rk243 hR, rr15 hR, rk245 hR, rr19 hR, rk249 hR, rs hR, rq hR, y256 hR w (1 + 0) (19 + 48 * w + 0) (by omega) (by omega), e2]
      rw [gb_pos (of_decide_eq_true h00), lst_s h00]
    | succ v ih =>
      intro hv
      obtain ⟨e2, b2⟩ := (ww_dk hW w (v + 1) hw (by omega)).c (by decide)
      rw [b292_9]
      simp (disch := omega) only [gq_true, gb_true, gb_false, true_and, and_true, eq_self, not_false_eq_true, not_true_eq_false, true_or, or_true, false_or, or_false, false_and, and_false, c0_v, ci_v, cl_v, cf_v, pk_mul, nI_add, nI_clamp, nI_lt0, nI_0le, nI_eq0, nI_lt0r, nI_ltE, nI_leE, nI_eqE, nI_m1, in_t, ba0, ba1, Nat.one_ne_zero, Nat.reduceEqDiff, Nat.reduceLeDiff, Nat.add_eq_zero_iff, rk243 hR, rr15 hR, rk245 hR, rr19 hR, rk249 hR, rs hR, rq hR, y256 hR w (1 + (v + 1)) (19 + 48 * w + (v + 1)) (by omega) (by omega), e2]
      by_cases h : cN s (19 + 48 * w + (v + 1)) ≤ day
      · rw [gb_pos h, lst_s (decide_eq_true h)]
      · rw [gb_neg h, lst_n (decide_eq_false h), dm_m, dm_s]
        exact ih (by omega)
  rw [c292, b292_0]
  simp (disch := omega) only [gq_true, gb_true, gb_false, true_and, and_true, eq_self, not_false_eq_true, not_true_eq_false, true_or, or_true, false_or, or_false, false_and, and_false, c0_v, ci_v, cl_v, cf_v, pk_mul, nI_add, nI_clamp, nI_lt0, nI_0le, nI_eq0, nI_lt0r, nI_ltE, nI_leE, nI_eqE, nI_m1, in_t, ba0, ba1, Nat.one_ne_zero, Nat.reduceEqDiff, Nat.reduceLeDiff, Nat.add_eq_zero_iff, rk243 hR, rr15 hR, rk245 hR, rr19 hR, rk249 hR, rs hR, rq hR, y256 hR w 0 (18 + 48 * w) (by omega) (by omega)]
  rw [e1, show cN s (18 + 48 * w) = cN s (18 + 48 * w) - 1 + 1 by omega, dm_s]
  rw [step _ (by omega), show cN s (18 + 48 * w) - 1 + 1 = cN s (18 + 48 * w) by omega]
  rfl
theorem y294 (hR : RS m N s q) (hC : WC s) (hW : WW s) (w k p : Nat) (hw : w < cN s 1) (hk : k < cN s (18 + 48 * w)) (hp : p < 2 ^ 31) : am_ca sa sv (d + 2) 294 [.ref (N + 243), .int (nI w), .int (nI k), .int (nI p)] m = some (.inl (some (.int (shr_ s w k p))), m) := by
  obtain ⟨-, b0⟩ := (wc_nw hC).c (by decide)
  obtain ⟨-, b3⟩ := (wc_np hC).c (by decide)
  have hk4 := isN_lt (ww_ns hW w hw).1 (by decide)
  obtain ⟨h1, -⟩ := ww_nh hW w k hw hk
  obtain ⟨e1, b1⟩ := h1.c (by decide)
  have H := lp_up (fun i => r294 sa sv (d + 1) 6 [some (.ref (N + 243)), some (.int (nI w)), some (.int (nI k)), some (.int (nI p)), some (.int (fl_ (fun j acc => if decide (cN s (27 + 48 * w + 4 * k + j) = p) = true then s (43 + 48 * w + 4 * k + j) else acc) (nI 0) i)), some (.int (nI i))] [] m) (cN s (23 + 48 * w + k)) (fun i hi => by
    obtain ⟨e2, b2⟩ := (ww_hp hW w k i hw hk hi).c (by omega)
    show r294 sa sv (d + 1) 6 _ [] m = _
    rw [b294_6]
    simp (disch := omega) only [gq_true, gb_true, gb_false, true_and, and_true, eq_self, not_false_eq_true, not_true_eq_false, true_or, or_true, false_or, or_false, false_and, and_false, c0_v, ci_v, cl_v, cf_v, pk_mul, nI_add, nI_clamp, nI_lt0, nI_0le, nI_eq0, nI_lt0r, nI_ltE, nI_leE, nI_eqE, nI_m1, in_t, ba0, ba1, Nat.one_ne_zero, Nat.reduceEqDiff, Nat.reduceLeDiff, Nat.add_eq_zero_iff, rk243 hR, rr15 hR, rk245 hR, rr19 hR, rk249 hR, rs hR, rq hR, y256 hR w (5 + k) (23 + 48 * w + k) (by omega) (by omega), e1, y256 hR w (9 + 4 * k + i) (27 + 48 * w + 4 * k + i) (by omega) (by omega), e2, y256 hR w (25 + 4 * k + i) (43 + 48 * w + 4 * k + i) (by omega) (by omega)]
    rw [gb_neg (by omega), fl_s]
    by_cases h : cN s (27 + 48 * w + 4 * k + i) = p
    · rw [gb_pos h, if_pos (decide_eq_true h)]
    · rw [gb_neg h, if_neg (by rw [decide_eq_false h]; decide)])
  rw [c294, b294_0]
  refine H.trans ?_
  show r294 sa sv (d + 1) 6 _ [] m = _
  rw [b294_6, fl_fst (fun j => decide (cN s (27 + 48 * w + 4 * k + j) = p)) _ _ _ (fun i j hij hj hi hj2 => ww_hd hW w k i j hw hk hj hij ((of_decide_eq_true hi).trans (of_decide_eq_true hj2).symm))]
  simp (disch := omega) only [gq_true, gb_true, gb_false, true_and, and_true, eq_self, not_false_eq_true, not_true_eq_false, true_or, or_true, false_or, or_false, false_and, and_false, c0_v, ci_v, cl_v, cf_v, pk_mul, nI_add, nI_clamp, nI_lt0, nI_0le, nI_eq0, nI_lt0r, nI_ltE, nI_leE, nI_eqE, nI_m1, in_t, ba0, ba1, Nat.one_ne_zero, Nat.reduceEqDiff, Nat.reduceLeDiff, Nat.add_eq_zero_iff, rk243 hR, rr15 hR, rk245 hR, rr19 hR, rk249 hR, rs hR, rq hR, y256 hR w (5 + k) (23 + 48 * w + k) (by omega) (by omega), e1, Nat.le_refl]
  rfl
theorem y299 (hR : RS m N s q) (hC : WC s) (hW : WW s) (w : Nat) (hw : w < cN s 1) : am_ca sa sv (d + 2) 299 [.ref (N + 243), .int (nI w)] m = some (.inl (some (.int (nI (rts_ s w)))), m) := by
  obtain ⟨-, b0⟩ := (wc_nw hC).c (by decide)
  have inner : ∀ v, v ≤ w → ∀ n i x, i + n = cN s (59 + 48 * v) → x < 2 ^ 13 → x.testBit v = true → ∃ y, y < 2 ^ 13 ∧ y = x ||| orF_ (fun j => cN s (60 + 48 * v + (i + j))) n ∧ r299 sa sv (d + 1) 13 [some (.ref (N + 243)), some (.int (nI w)), some (.int (nI x)), some (.int (nI v)), some (.int (nI i))] [] m = r299 sa sv (d + 1) 6 [some (.ref (N + 243)), some (.int (nI w)), some (.int (nI y)), some (.int (nI v - nI 1)), some (.int (nI (cN s (59 + 48 * v))))] [] m := by
    intro v hv n
    obtain ⟨e1, b1⟩ := (ww_no hW v (by omega)).c (by decide)
    induction n with
    | zero =>
      intro i x hi hx hb
      refine ⟨x, hx, (Nat.or_zero x).symm, ?_⟩
      rw [b299_13]
      simp (disch := omega) only [gq_true, gb_true, gb_false, true_and, and_true, eq_self, not_false_eq_true, not_true_eq_false, true_or, or_true, false_or, or_false, false_and, and_false, c0_v, ci_v, cl_v, cf_v, pk_mul, nI_add, nI_clamp, nI_lt0, nI_0le, nI_eq0, nI_lt0r, nI_ltE, nI_leE, nI_eqE, nI_m1, in_t, ba0, ba1, Nat.one_ne_zero, Nat.reduceEqDiff, Nat.reduceLeDiff, Nat.add_eq_zero_iff, rk243 hR, rr15 hR, rk245 hR, rr19 hR, rk249 hR, rs hR, rq hR, y256 hR v 41 (59 + 48 * v) (by omega) (by omega), e1]
      rw [gb_pos (by omega), dm_m, show i = cN s (59 + 48 * v) by omega]
    | succ n ih =>
      intro i x hi hx hb
      obtain ⟨e2, b2⟩ := (ww_ow hW v i (by omega) (by omega)).c (by omega)
      have hx2 : x ||| 2 ^ cN s (60 + 48 * v + i) < 2 ^ 13 := Nat.or_lt_two_pow hx (Nat.pow_lt_pow_right (by decide) (by omega))
      obtain ⟨y, hy, hy2, hy3⟩ := ih (i + 1) (x ||| 2 ^ cN s (60 + 48 * v + i)) (by omega) hx2 (by rw [Nat.testBit_or, hb, Bool.true_or])
      refine ⟨y, hy, ?_, ?_⟩
      · rw [hy2, Nat.or_assoc]
        congr 1
        have hsh : ∀ n, 2 ^ cN s (60 + 48 * v + i) ||| orF_ (fun j => cN s (60 + 48 * v + (i + 1 + j))) n = orF_ (fun j => cN s (60 + 48 * v + (i + j))) (n + 1) := by
          intro n
          induction n with
          | zero => rw [orF_, orF_, orF_, Nat.or_zero, Nat.zero_or]; rfl
          | succ n ih2 =>
            rw [orF_, ← Nat.or_assoc, ih2]
            conv => rhs; rw [orF_]
            rw [show i + 1 + n = i + (n + 1) by omega]
        exact hsh n
      · rw [b299_13]
        simp (disch := omega) only [gq_true, gb_true, gb_false, true_and, and_true, eq_self, not_false_eq_true, not_true_eq_false, true_or, or_true, false_or, or_false, false_and, and_false, c0_v, ci_v, cl_v, cf_v, pk_mul, nI_add, nI_clamp, nI_lt0, nI_0le, nI_eq0, nI_lt0r, nI_ltE, nI_leE, nI_eqE, nI_m1, in_t, ba0, ba1, Nat.one_ne_zero, Nat.reduceEqDiff, Nat.reduceLeDiff, Nat.add_eq_zero_iff, rk243 hR, rr15 hR, rk245 hR, rr19 hR, rk249 hR, rs hR, rq hR, y256 hR v 41 (59 + 48 * v) (by omega) (by omega), e1, y256 hR v (42 + i) (60 + 48 * v + i) (by omega) (by omega), e2]
        rw [gb_neg (by omega), nI_tb (by omega) (by omega), hb, cond_true, gb_pos rfl, nI_sh1 _ (by omega), nI_or]
        exact hy3
  have outer : ∀ v x (o4 : Option Value), v ≤ w + 1 → x < 2 ^ 13 → r299 sa sv (d + 1) 6 [some (.ref (N + 243)), some (.int (nI w)), some (.int (nI x)), some (.int (nI v - nI 1)), o4] [] m = some (.inl (some (.int (nI (rt_ s v x) - nI (2 ^ w)))), m) := by
    intro v
    induction v with
    | zero =>
      intro x o4 _ _
      rw [b299_6]
      simp (disch := omega) only [gq_true, gb_true, gb_false, true_and, and_true, eq_self, not_false_eq_true, not_true_eq_false, true_or, or_true, false_or, or_false, false_and, and_false, c0_v, ci_v, cl_v, cf_v, pk_mul, nI_add, nI_clamp, nI_lt0, nI_0le, nI_eq0, nI_lt0r, nI_ltE, nI_leE, nI_eqE, nI_m1, in_t, ba0, ba1, Nat.one_ne_zero, Nat.reduceEqDiff, Nat.reduceLeDiff, Nat.add_eq_zero_iff, dm_0, nI_sh1 w (by omega)]
      rfl
    | succ v ih =>
      intro x o4 hv hx
      rw [b299_6, dm_s]
      simp (disch := omega) only [gq_true, gb_true, gb_false, true_and, and_true, eq_self, not_false_eq_true, not_true_eq_false, true_or, or_true, false_or, or_false, false_and, and_false, c0_v, ci_v, cl_v, cf_v, pk_mul, nI_add, nI_clamp, nI_lt0, nI_0le, nI_eq0, nI_lt0r, nI_ltE, nI_leE, nI_eqE, nI_m1, in_t, ba0, ba1, Nat.one_ne_zero, Nat.reduceEqDiff, Nat.reduceLeDiff, Nat.add_eq_zero_iff]
      cases hb : x.testBit v with
      | false =>
        obtain ⟨e1, b1⟩ := (ww_no hW v (by omega)).c (by decide)
        rw [b299_13]
        simp (disch := omega) only [gq_true, gb_true, gb_false, true_and, and_true, eq_self, not_false_eq_true, not_true_eq_false, true_or, or_true, false_or, or_false, false_and, and_false, c0_v, ci_v, cl_v, cf_v, pk_mul, nI_add, nI_clamp, nI_lt0, nI_0le, nI_eq0, nI_lt0r, nI_ltE, nI_leE, nI_eqE, nI_m1, in_t, ba0, ba1, Nat.one_ne_zero, Nat.reduceEqDiff, Nat.reduceLeDiff, Nat.add_eq_zero_iff, rk243 hR, rr15 hR, rk245 hR, rr19 hR, rk249 hR, rs hR, rq hR, y256 hR v 41 (59 + 48 * v) (by omega) (by omega), e1]
        rw [nI_tb (by omega) (by omega), hb, cond_false, dm_m]
        simp (disch := omega) only [gq_true, gb_true, gb_false, true_and, and_true, eq_self, not_false_eq_true, not_true_eq_false, true_or, or_true, false_or, or_false, false_and, and_false, c0_v, ci_v, cl_v, cf_v, pk_mul, nI_add, nI_clamp, nI_lt0, nI_0le, nI_eq0, nI_lt0r, nI_ltE, nI_leE, nI_eqE, nI_m1, in_t, ba0, ba1, Nat.one_ne_zero, Nat.reduceEqDiff, Nat.reduceLeDiff, Nat.add_eq_zero_iff, show (0 = 1) = False from eq_false (by decide)]
        rw [gb_same, rt_, hb]
        exact ih x _ (by omega) hx
      | true =>
        obtain ⟨y, hy, hy2, hy3⟩ := inner v (by omega) (cN s (59 + 48 * v)) 0 x (Nat.zero_add _) hx hb
        rw [hy3, rt_, hb, ih y _ (by omega) hy, hy2]
        simp only [Nat.zero_add]
        rfl
  rw [c299, b299_0, nI_sh1 w (by omega)]
  have h := outer (w + 1) (2 ^ w) none (Nat.le_refl _) (Nat.pow_lt_pow_right (by decide) (by omega))
  rw [dm_s] at h
  rw [h]
  have hge : 2 ^ w ≤ rt_ s (w + 1) (2 ^ w) := by
    have hb : (2 ^ w).testBit w = true := by rw [Nat.testBit_two_pow]; exact decide_eq_true rfl
    have e : rt_ s (w + 1) (2 ^ w) = rt_ s w (2 ^ w ||| so_ s w) := by rw [rt_, hb]; rfl
    rw [e, rt_or w w _ (Nat.le_refl w)]
    exact Nat.left_le_or
  rw [pk_sub hge, rt_ref hC hW hw]
end R50
