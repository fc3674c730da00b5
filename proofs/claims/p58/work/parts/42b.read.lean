/-! the class reads its office: sources, splits, shares -/
/-- the or of 2 ^ f j, j < n -/
def orF_ (f : Nat → Nat) : Nat → Nat
  | 0 => 0
  | n + 1 => orF_ f n ||| 2 ^ f n
theorem orF_tb (f : Nat → Nat) (i : Nat) : ∀ n, (orF_ f n).testBit i = decide (∃ j, j < n ∧ f j = i) := by
  intro n
  induction n with
  | zero => rw [orF_, Nat.zero_testBit, eq_comm, decide_eq_false_iff_not]; rintro ⟨j, h, -⟩; omega
  | succ n ih =>
    rw [orF_, Nat.testBit_or, ih, Nat.testBit_two_pow]
    rw [← Bool.decide_or]
    refine decide_eq_decide.mpr ⟨?_, ?_⟩
    · rintro (⟨j, h, h1⟩ | h)
      · exact ⟨j, by omega, h1⟩
      · exact ⟨n, by omega, h⟩
    · rintro ⟨j, h, h1⟩
      by_cases e : j = n
      · subst e; exact Or.inr h1
      · exact Or.inl ⟨j, by omega, h1⟩
theorem orF_lt {f : Nat → Nat} {b : Nat} : ∀ {n : Nat}, (∀ j, j < n → f j < b) → orF_ f n < 2 ^ b
  | 0, _ => Nat.two_pow_pos b
  | n + 1, h => Nat.or_lt_two_pow (orF_lt fun j hj => h j (by omega)) (Nat.pow_lt_pow_right (by decide) (h n (by omega)))
theorem nI_or (a b : Nat) : nI a ||| nI b = nI (a ||| b) := by
  apply Int32.toBitVec_inj.mp
  show BitVec.ofNat 32 a ||| BitVec.ofNat 32 b = BitVec.ofNat 32 (a ||| b)
  apply BitVec.eq_of_getLsbD_eq
  intro i hi
  simp [hi]
theorem nI_sh1 : ∀ k, k < 16 → nI 1 <<< (nI k &&& 31) = nI (2 ^ k) := by decide +kernel
theorem nI_sm : ∀ k, k < 16 → ((nI k &&& 31).toBitVec.smod 32).toNat = k := by decide +kernel
theorem nI_tb {x k : Nat} (hx : x < 2 ^ 31) (hk : k < 16) : (nI x >>> (nI k &&& 31)) &&& nI 1 = nI (bif x.testBit k then 1 else 0) := by
  rw [pk_shrN hx _ k (nI_sm k hk), pk_andN (m := nI 1) (by have := Nat.div_le_self x (2 ^ k); omega) 1 (by decide)]
  congr 1
  rw [Nat.testBit_eq_decide_div_mod_eq]
  by_cases h : x / 2 ^ k % 2 = 1
  · rw [decide_eq_true h, h]; rfl
  · rw [decide_eq_false h]; show x / 2 ^ k % 2 ^ 1 = 0; omega
theorem nI_shr {x k : Nat} (hx : x < 2 ^ 31) (hk : k < 16) : nI x >>> (nI k &&& 31) = nI (x / 2 ^ k) := pk_shrN hx _ k (nI_sm k hk)
section R42
variable {sa sv d o : Nat} {m : am_M} {s : Nat → Int32} {q : Nat → Int64}
theorem x18 (hO : OS m o) (hV : OV m o s q) (w i : Nat) (hw : w < 12) (hi : i < 3) : am_ca sa sv (d + 2) 18 [.ref (o + 1), .int (nI w), .int (nI i)] m = some (.inl (some (.int (s (63 + 48 * w + i)))), m) := by
  rw [c18, b18_0]
  simp (disch := omega) only [gq_true, gb_true, gb_false, true_and, and_true, eq_self, not_false_eq_true, not_true_eq_false, true_or, or_true, false_or, or_false, false_and, and_false, c0_v, ci_v, cl_v, cf_v, pk_mul, nI_add, nI_clamp, nI_lt0, nI_0le, nI_eq0, nI_lt0r, nI_ltE, nI_leE, nI_eqE, nI_m1, in_t, ba0, ba1, Nat.one_ne_zero, Nat.reduceEqDiff, Nat.reduceLeDiff, Nat.add_eq_zero_iff, ok1 hO, or1_7 hO, ok7 hO]
  rw [tb_at (ot7 hO) (by omega) (w * 3 + i) 1 (by omega)]
  simp (disch := omega) only [gq_true, gb_true, gb_false, true_and, and_true, eq_self, not_false_eq_true, not_true_eq_false, true_or, or_true, false_or, or_false, false_and, and_false, c0_v, ci_v, cl_v, cf_v, pk_mul, nI_add, nI_clamp, nI_lt0, nI_0le, nI_eq0, nI_lt0r, nI_ltE, nI_leE, nI_eqE, nI_m1, in_t, ba0, ba1, Nat.one_ne_zero, Nat.reduceEqDiff, Nat.reduceLeDiff, Nat.add_eq_zero_iff]
  rw [show o + 7 + 1 = o + 8 from rfl, ov_sop hV w i hw hi]
theorem x24 (hO : OS m o) (hV : OV m o s q) (w k : Nat) (hw : w < 12) (hk : k < 4) : am_ca sa sv (d + 2) 24 [.ref (o + 1), .int (nI w), .int (nI k)] m = some (.inl (some (.int (s (19 + 48 * w + k)))), m) := by
  rw [c24, b24_0]
  simp (disch := omega) only [gq_true, gb_true, gb_false, true_and, and_true, eq_self, not_false_eq_true, not_true_eq_false, true_or, or_true, false_or, or_false, false_and, and_false, c0_v, ci_v, cl_v, cf_v, pk_mul, nI_add, nI_clamp, nI_lt0, nI_0le, nI_eq0, nI_lt0r, nI_ltE, nI_leE, nI_eqE, nI_m1, in_t, ba0, ba1, Nat.one_ne_zero, Nat.reduceEqDiff, Nat.reduceLeDiff, Nat.add_eq_zero_iff, ok1 hO, or1_8 hO, ok9 hO]
  rw [tb_at (ot9 hO) (by omega) (w * 4 + k) 0 (by omega)]
  simp (disch := omega) only [gq_true, gb_true, gb_false, true_and, and_true, eq_self, not_false_eq_true, not_true_eq_false, true_or, or_true, false_or, or_false, false_and, and_false, c0_v, ci_v, cl_v, cf_v, pk_mul, nI_add, nI_clamp, nI_lt0, nI_0le, nI_eq0, nI_lt0r, nI_ltE, nI_leE, nI_eqE, nI_m1, in_t, ba0, ba1, Nat.one_ne_zero, Nat.reduceEqDiff, Nat.reduceLeDiff, Nat.add_eq_zero_iff]
  rw [show o + 9 + 1 = o + 10 from rfl, show (w * 4 + k) * 2 + 0 = (w * 4 + k) * 2 from rfl, ov_spd hV w k hw hk]
theorem x26 (hO : OS m o) (hV : OV m o s q) (w k : Nat) (hw : w < 12) (hk : k < 4) : am_ca sa sv (d + 2) 26 [.ref (o + 1), .int (nI w), .int (nI k)] m = some (.inl (some (.int (s (23 + 48 * w + k)))), m) := by
  rw [c26, b26_0]
  simp (disch := omega) only [gq_true, gb_true, gb_false, true_and, and_true, eq_self, not_false_eq_true, not_true_eq_false, true_or, or_true, false_or, or_false, false_and, and_false, c0_v, ci_v, cl_v, cf_v, pk_mul, nI_add, nI_clamp, nI_lt0, nI_0le, nI_eq0, nI_lt0r, nI_ltE, nI_leE, nI_eqE, nI_m1, in_t, ba0, ba1, Nat.one_ne_zero, Nat.reduceEqDiff, Nat.reduceLeDiff, Nat.add_eq_zero_iff, ok1 hO, or1_8 hO, ok9 hO]
  rw [tb_at (ot9 hO) (by omega) (w * 4 + k) 1 (by omega)]
  simp (disch := omega) only [gq_true, gb_true, gb_false, true_and, and_true, eq_self, not_false_eq_true, not_true_eq_false, true_or, or_true, false_or, or_false, false_and, and_false, c0_v, ci_v, cl_v, cf_v, pk_mul, nI_add, nI_clamp, nI_lt0, nI_0le, nI_eq0, nI_lt0r, nI_ltE, nI_leE, nI_eqE, nI_m1, in_t, ba0, ba1, Nat.one_ne_zero, Nat.reduceEqDiff, Nat.reduceLeDiff, Nat.add_eq_zero_iff]
  rw [show o + 9 + 1 = o + 10 from rfl, ov_spn hV w k hw hk]
theorem x27 (hO : OS m o) (hV : OV m o s q) (w k j : Nat) (hw : w < 12) (hk : k < 4) (hj : j < 4) : am_ca sa sv (d + 2) 27 [.ref (o + 1), .int (nI w), .int (nI k), .int (nI j)] m = some (.inl (some (.int (s (27 + 48 * w + 4 * k + j)))), m) := by
  rw [c27, b27_0]
  simp (disch := omega) only [gq_true, gb_true, gb_false, true_and, and_true, eq_self, not_false_eq_true, not_true_eq_false, true_or, or_true, false_or, or_false, false_and, and_false, c0_v, ci_v, cl_v, cf_v, pk_mul, nI_add, nI_clamp, nI_lt0, nI_0le, nI_eq0, nI_lt0r, nI_ltE, nI_leE, nI_eqE, nI_m1, in_t, ba0, ba1, Nat.one_ne_zero, Nat.reduceEqDiff, Nat.reduceLeDiff, Nat.add_eq_zero_iff, ok1 hO, or1_9 hO, ok11 hO]
  rw [tb_at (ot11 hO) (by omega) ((w * 4 + k) * 4 + j) 0 (by omega)]
  simp (disch := omega) only [gq_true, gb_true, gb_false, true_and, and_true, eq_self, not_false_eq_true, not_true_eq_false, true_or, or_true, false_or, or_false, false_and, and_false, c0_v, ci_v, cl_v, cf_v, pk_mul, nI_add, nI_clamp, nI_lt0, nI_0le, nI_eq0, nI_lt0r, nI_ltE, nI_leE, nI_eqE, nI_m1, in_t, ba0, ba1, Nat.one_ne_zero, Nat.reduceEqDiff, Nat.reduceLeDiff, Nat.add_eq_zero_iff]
  rw [show o + 11 + 1 = o + 12 from rfl, show ((w * 4 + k) * 4 + j) * 2 + 0 = ((w * 4 + k) * 4 + j) * 2 from rfl, ov_shp hV w k j hw hk hj]
theorem x28 (hO : OS m o) (hV : OV m o s q) (w k j : Nat) (hw : w < 12) (hk : k < 4) (hj : j < 4) : am_ca sa sv (d + 2) 28 [.ref (o + 1), .int (nI w), .int (nI k), .int (nI j)] m = some (.inl (some (.int (s (43 + 48 * w + 4 * k + j)))), m) := by
  rw [c28, b28_0]
  simp (disch := omega) only [gq_true, gb_true, gb_false, true_and, and_true, eq_self, not_false_eq_true, not_true_eq_false, true_or, or_true, false_or, or_false, false_and, and_false, c0_v, ci_v, cl_v, cf_v, pk_mul, nI_add, nI_clamp, nI_lt0, nI_0le, nI_eq0, nI_lt0r, nI_ltE, nI_leE, nI_eqE, nI_m1, in_t, ba0, ba1, Nat.one_ne_zero, Nat.reduceEqDiff, Nat.reduceLeDiff, Nat.add_eq_zero_iff, ok1 hO, or1_9 hO, ok11 hO]
  rw [tb_at (ot11 hO) (by omega) ((w * 4 + k) * 4 + j) 1 (by omega)]
  simp (disch := omega) only [gq_true, gb_true, gb_false, true_and, and_true, eq_self, not_false_eq_true, not_true_eq_false, true_or, or_true, false_or, or_false, false_and, and_false, c0_v, ci_v, cl_v, cf_v, pk_mul, nI_add, nI_clamp, nI_lt0, nI_0le, nI_eq0, nI_lt0r, nI_ltE, nI_leE, nI_eqE, nI_m1, in_t, ba0, ba1, Nat.one_ne_zero, Nat.reduceEqDiff, Nat.reduceLeDiff, Nat.add_eq_zero_iff]
  rw [show o + 11 + 1 = o + 12 from rfl, ov_shc hV w k j hw hk hj]
theorem x19 (hO : OS m o) (hV : OV m o s q) (hC : WC s) (hW : WW s) (w : Nat) (hw : w < cN s 1) : am_ca sa sv (d + 3) 19 [.ref (o + 1), .int (nI w)] m = some (.inl (some (.int (nI (sum_ (fun i => cN s (63 + 48 * w + i)) (cN s (59 + 48 * w)))))), m) := by
  obtain ⟨e0, b0⟩ := (wc_nw hC).c (by decide)
  obtain ⟨e1, b1⟩ := (ww_no hW w hw).c (by decide)
  have H := lp_up (fun i => r19 sa sv (d + 2) 4 [some (.ref (o + 1)), some (.int (nI w)), some (.int (nI (sum_ (fun i => cN s (63 + 48 * w + i)) i))), some (.int (nI i))] [] m) (cN s (59 + 48 * w)) (fun i hi => by
    obtain ⟨e2, b2⟩ := (ww_oc hW w i hw hi).c (by decide)
    show r19 sa sv (d + 2) 4 _ [] m = _
    rw [b19_4, x16 hO hV hC w (by omega), if_pos hw, e1]
    simp (disch := omega) only [gq_true, gb_true, gb_false, true_and, and_true, eq_self, not_false_eq_true, not_true_eq_false, true_or, or_true, false_or, or_false, false_and, and_false, c0_v, ci_v, cl_v, cf_v, pk_mul, nI_add, nI_clamp, nI_lt0, nI_0le, nI_eq0, nI_lt0r, nI_ltE, nI_leE, nI_eqE, nI_m1, in_t, ba0, ba1, Nat.one_ne_zero, Nat.reduceEqDiff, Nat.reduceLeDiff, Nat.add_eq_zero_iff, ok1 hO]
    rw [gb_neg (by omega), x18 hO hV w i (by omega) (by omega), ci_v, e2, nI_add]
    rfl)
  rw [c19, b19_0]
  refine H.trans ?_
  show r19 sa sv (d + 2) 4 _ [] m = _
  rw [b19_4, x16 hO hV hC w (by omega), if_pos hw, e1]
  simp (disch := omega) only [gq_true, gb_true, gb_false, true_and, and_true, eq_self, not_false_eq_true, not_true_eq_false, true_or, or_true, false_or, or_false, false_and, and_false, c0_v, ci_v, cl_v, cf_v, pk_mul, nI_add, nI_clamp, nI_lt0, nI_0le, nI_eq0, nI_lt0r, nI_ltE, nI_leE, nI_eqE, nI_m1, in_t, ba0, ba1, Nat.one_ne_zero, Nat.reduceEqDiff, Nat.reduceLeDiff, Nat.add_eq_zero_iff, ok1 hO, Nat.le_refl]
theorem x20 (hO : OS m o) (hV : OV m o s q) (hC : WC s) (hW : WW s) (w : Nat) (hw : w < cN s 1) : am_ca sa sv (d + 3) 20 [.ref (o + 1), .int (nI w)] m = some (.inl (some (.int (nI (orF_ (fun i => cN s (60 + 48 * w + i)) (cN s (59 + 48 * w)))))), m) := by
  obtain ⟨e0, b0⟩ := (wc_nw hC).c (by decide)
  obtain ⟨e1, b1⟩ := (ww_no hW w hw).c (by decide)
  have H := lp_up (fun i => r20 sa sv (d + 2) 4 [some (.ref (o + 1)), some (.int (nI w)), some (.int (nI (orF_ (fun i => cN s (60 + 48 * w + i)) i))), some (.int (nI i))] [] m) (cN s (59 + 48 * w)) (fun i hi => by
    obtain ⟨e2, b2⟩ := (ww_ow hW w i hw hi).c (by omega)
    show r20 sa sv (d + 2) 4 _ [] m = _
    rw [b20_4, x16 hO hV hC w (by omega), if_pos hw, e1]
    simp (disch := omega) only [gq_true, gb_true, gb_false, true_and, and_true, eq_self, not_false_eq_true, not_true_eq_false, true_or, or_true, false_or, or_false, false_and, and_false, c0_v, ci_v, cl_v, cf_v, pk_mul, nI_add, nI_clamp, nI_lt0, nI_0le, nI_eq0, nI_lt0r, nI_ltE, nI_leE, nI_eqE, nI_m1, in_t, ba0, ba1, Nat.one_ne_zero, Nat.reduceEqDiff, Nat.reduceLeDiff, Nat.add_eq_zero_iff, ok1 hO]
    rw [gb_neg (by omega), x17 hO hV w i (by omega) (by omega), ci_v, e2, nI_sh1 _ (by omega), nI_or]
    rfl)
  rw [c20, b20_0]
  refine H.trans ?_
  show r20 sa sv (d + 2) 4 _ [] m = _
  rw [b20_4, x16 hO hV hC w (by omega), if_pos hw, e1]
  simp (disch := omega) only [gq_true, gb_true, gb_false, true_and, and_true, eq_self, not_false_eq_true, not_true_eq_false, true_or, or_true, false_or, or_false, false_and, and_false, c0_v, ci_v, cl_v, cf_v, pk_mul, nI_add, nI_clamp, nI_lt0, nI_0le, nI_eq0, nI_lt0r, nI_ltE, nI_leE, nI_eqE, nI_m1, in_t, ba0, ba1, Nat.one_ne_zero, Nat.reduceEqDiff, Nat.reduceLeDiff, Nat.add_eq_zero_iff, ok1 hO, Nat.le_refl]
/-- the split in force; 0 for a work that isn't there -/
theorem x25 (hO : OS m o) (hV : OV m o s q) (hC : WC s) (hW : WW s) (w day : Nat) (hw : w < 12) (hd : day < 2 ^ 31) : am_ca sa sv (d + 3) 25 [.ref (o + 1), .int (nI w), .int (nI day)] m = some (.inl (some (.int (nI (if w < cN s 1 then spl_ s w day else 0)))), m) := by
  obtain ⟨e0, b0⟩ := (wc_nw hC).c (by decide)
  rw [c25, b25_0]
  by_cases hn : w < cN s 1
  · rw [if_pos hn]
    obtain ⟨h1, b1⟩ := ww_ns hW w hn
    obtain ⟨e1, b2⟩ := h1.c (by decide)
    have H := lp_from (fun i => r25 sa sv (d + 2) 5 [some (.ref (o + 1)), some (.int (nI w)), some (.int (nI day)), some (.int (nI (lst_ (fun k => decide (cN s (19 + 48 * w + k) ≤ day)) i))), some (.int (nI i))] [] m) 1 (cN s (18 + 48 * w)) (by omega) (fun i h1i hi => by
      obtain ⟨e2, b3⟩ := (ww_dk hW w i hn hi).c (by decide)
      show r25 sa sv (d + 2) 5 _ [] m = _
      rw [b25_5, x23 hO hV hC w (by omega), if_pos hn, e1]
      simp (disch := omega) only [gq_true, gb_true, gb_false, true_and, and_true, eq_self, not_false_eq_true, not_true_eq_false, true_or, or_true, false_or, or_false, false_and, and_false, c0_v, ci_v, cl_v, cf_v, pk_mul, nI_add, nI_clamp, nI_lt0, nI_0le, nI_eq0, nI_lt0r, nI_ltE, nI_leE, nI_eqE, nI_m1, in_t, ba0, ba1, Nat.one_ne_zero, Nat.reduceEqDiff, Nat.reduceLeDiff, Nat.add_eq_zero_iff, ok1 hO]
      rw [gb_neg (by omega), x24 hO hV w i (by omega) (by omega), ci_v, e2]
      simp (disch := omega) only [gq_true, gb_true, gb_false, true_and, and_true, eq_self, not_false_eq_true, not_true_eq_false, true_or, or_true, false_or, or_false, false_and, and_false, c0_v, ci_v, cl_v, cf_v, pk_mul, nI_add, nI_clamp, nI_lt0, nI_0le, nI_eq0, nI_lt0r, nI_ltE, nI_leE, nI_eqE, nI_m1, in_t, ba0, ba1, Nat.one_ne_zero, Nat.reduceEqDiff, Nat.reduceLeDiff, Nat.add_eq_zero_iff]
      by_cases hh : cN s (19 + 48 * w + i) ≤ day
      · rw [gb_neg (by omega), lst_s (decide_eq_true hh)]
      · rw [gb_pos (by omega), lst_n (decide_eq_false hh)])
    have h0 : lst_ (fun k => decide (cN s (19 + 48 * w + k) ≤ day)) 1 = 0 := by
      cases hz : decide (cN s (19 + 48 * w + 0) ≤ day) with
      | true => exact lst_s hz
      | false => rw [lst_n hz]; rfl
    have H' : r25 sa sv (d + 2) 5 [some (.ref (o + 1)), some (.int (nI w)), some (.int (nI day)), some (.int (nI (lst_ (fun k => decide (cN s (19 + 48 * w + k) ≤ day)) 1))), some (.int (nI 1))] [] m = _ := H
    rw [h0] at H'
    refine H'.trans ?_
    show r25 sa sv (d + 2) 5 _ [] m = _
    rw [b25_5, x23 hO hV hC w (by omega), if_pos hn, e1]
    simp (disch := omega) only [gq_true, gb_true, gb_false, true_and, and_true, eq_self, not_false_eq_true, not_true_eq_false, true_or, or_true, false_or, or_false, false_and, and_false, c0_v, ci_v, cl_v, cf_v, pk_mul, nI_add, nI_clamp, nI_lt0, nI_0le, nI_eq0, nI_lt0r, nI_ltE, nI_leE, nI_eqE, nI_m1, in_t, ba0, ba1, Nat.one_ne_zero, Nat.reduceEqDiff, Nat.reduceLeDiff, Nat.add_eq_zero_iff, ok1 hO, Nat.le_refl]
    rfl
  · rw [if_neg hn, b25_5, x23 hO hV hC w (by omega), if_neg hn]
    simp (disch := omega) only [gq_true, gb_true, gb_false, true_and, and_true, eq_self, not_false_eq_true, not_true_eq_false, true_or, or_true, false_or, or_false, false_and, and_false, c0_v, ci_v, cl_v, cf_v, pk_mul, nI_add, nI_clamp, nI_lt0, nI_0le, nI_eq0, nI_lt0r, nI_ltE, nI_leE, nI_eqE, nI_m1, in_t, ba0, ba1, Nat.one_ne_zero, Nat.reduceEqDiff, Nat.reduceLeDiff, Nat.add_eq_zero_iff, ok1 hO]
theorem spl_lt (hW : WW s) (w day : Nat) (hw : w < cN s 1) : spl_ s w day < cN s (18 + 48 * w) := lst_lt (ww_ns hW w hw).2
end R42
