/-! the class divides an income: a share, the sources -/
theorem asg_lmono (s : Nat → Int32) (w p part day : Nat) {n k : Nat} (hn : n ≤ k) : (asg_ s w p part day n).length ≤ (asg_ s w p part day k).length := by
  obtain ⟨j, rfl⟩ := Nat.exists_eq_add_of_le hn
  clear hn
  induction j with
  | zero => exact Nat.le_refl _
  | succ j ih =>
    refine Nat.le_trans ih ?_
    show _ ≤ (asg_ s w p part day (n + j) ++ _).length
    rw [List.length_append]
    exact Nat.le_add_right _ _
theorem asu_mono (s : Nat → Int32) (w p part day : Nat) {n k : Nat} (hn : n ≤ k) : asu_ s w p part day n ≤ asu_ s w p part day k := sum_mono _ hn
section R61
variable {sa sv d N o : Nat} {m : am_M} {s : Nat → Int32} {q : Nat → Int64}
theorem x38 {day : Nat} (hP : PD m N o s q day) (hC : WC s) (hA : WA s) {l : List Ln} (w p part : Nat) (hw : w < 12) (hp : p < 10) (hpart : part ≤ 9999999) (hL : LN m (N + 22) l) (hr : gi_ m (N + 21) 2 = nI l.length) (h64 : (l ++ pl_ s w p part day).length ≤ 64) : ∃ m', am_ca sa sv (d + 2) 38 [.ref (N + 14), .int (nI w), .int (nI p), .int (nI part)] m = some (.inl none, m') ∧ Fr (DL N) m m' ∧ LN m' (N + 22) (l ++ pl_ s w p part day) ∧ gi_ m' (N + 21) 2 = nI (l ++ pl_ s w p part day).length := by
  have hna := isN_lt (wc_na hC) (by decide)
  have hnp := isN_lt (wc_np hC) (by decide)
  have hsum := asu_le hA w p part day (Nat.le_refl (cN s 2))
  have hX := msk_lt (asm_ s w p day) (cN s 2)
  have hX16 : msk_ (asm_ s w p day) (cN s 2) < 2 ^ 16 := Nat.lt_of_lt_of_le hX (Nat.pow_le_pow_right (by decide) (by omega))
  have hlen : (l ++ asg_ s w p part day (cN s 2)).length ≤ 64 := by
    rw [List.length_append] at h64 ⊢
    rw [pl_, List.length_append] at h64
    omega
  have fin : ∀ m1, Fr (DL N) m m1 → LN m1 (N + 22) (l ++ asg_ s w p part day (cN s 2)) → gi_ m1 (N + 21) 2 = nI (l ++ asg_ s w p part day (cN s 2)).length → ∃ m', gb_ (nI (part - asu_ s w p part day (cN s 2)) ≤ 0) (some (.inl none, m1)) (gq_ (gk_ m1 (N + 14) = (1, 1) ∧ ¬ gr_ m1 (N + 14) 6 = 0) (gq_ (gk_ m1 (gr_ m1 (N + 14) 6) = (1, 8)) (am_c0 (am_ca sa sv (d + 1) 129 [.ref (gr_ m1 (N + 14) 6), .int (nI w), .int (nI p), .int (nI (part - asu_ s w p part day (cN s 2))), .int (nI 0)] m1) (fun m3 => some (.inl none, m3)) am_xg))) = some (.inl none, m') ∧ Fr (DL N) m m' ∧ LN m' (N + 22) (l ++ pl_ s w p part day) ∧ gi_ m' (N + 21) 2 = nI (l ++ pl_ s w p part day).length := by
    intro m1 hF1 hL1 hr1
    have hP1 := hP.fr (hF1.mono fun _ _ h => DL.c h)
    have hX1 := hP1.1
    by_cases h : 0 < part - asu_ s w p part day (cN s 2)
    · have e : pl_ s w p part day = asg_ s w p part day (cN s 2) ++ [(w, p, part - asu_ s w p part day (cN s 2), 0)] := by rw [pl_, if_pos h]
      have hlt : (l ++ asg_ s w p part day (cN s 2)).length < 64 := by
        rw [e, ← List.append_assoc, List.length_append] at h64
        simp only [List.length_singleton] at h64
        omega
      obtain ⟨m2, g1, g2, g3, g4⟩ := x129 (sa := sa) (sv := sv) (d := d) (xt21 hX1) hlt hr1 hL1 (w, p, part - asu_ s w p part day (cN s 2), 0) rfl
      refine ⟨m2, ?_, hF1.trans (g2.mono fun a k h => h), ?_, ?_⟩
      · rw [gb_neg (by rw [nI_le0 (by omega)]; omega)]
        simp (disch := omega) only [gq_true, gb_true, gb_false, true_and, and_true, eq_self, not_false_eq_true, not_true_eq_false, true_or, or_true, false_or, or_false, false_and, and_false, c0_v, ci_v, cl_v, cf_v, pk_mul, nI_add, nI_clamp, nI_lt0, nI_0le, nI_eq0, nI_lt0r, nI_ltE, nI_leE, nI_eqE, nI_m1, in_t, ba0, ba1, Nat.one_ne_zero, Nat.reduceEqDiff, Nat.reduceLeDiff, Nat.add_eq_zero_iff, xk14 hX1, xr14_6 hX1, xk21 hX1]
        rw [g1]; rfl
      · rw [e, ← List.append_assoc]; exact g3
      · rw [e, ← List.append_assoc]; exact g4
    · have e : pl_ s w p part day = asg_ s w p part day (cN s 2) := by rw [pl_, if_neg h, List.append_nil]
      refine ⟨m1, gb_pos (by rw [nI_le0 (by omega)]; omega), hF1, ?_, ?_⟩
      · rw [e]; exact hL1
      · rw [e]; exact hr1
  have step : ∀ j n m1 (o7 : Option Value), n + j = 16 → Fr (DL N) m m1 → LN m1 (N + 22) (l ++ asg_ s w p part day (min n (cN s 2))) → gi_ m1 (N + 21) 2 = nI (l ++ asg_ s w p part day (min n (cN s 2))).length → ∃ m', r38 sa sv (d + 1) 21 [some (.ref (N + 14)), some (.int (nI w)), some (.int (nI p)), some (.int (nI part)), some (.int (nI (part - asu_ s w p part day (min n (cN s 2))))), some (.int (nI (msk_ (asm_ s w p day) (cN s 2)))), some (.int (nI n)), o7] [] m1 = some (.inl none, m') ∧ Fr (DL N) m m' ∧ LN m' (N + 22) (l ++ pl_ s w p part day) ∧ gi_ m' (N + 21) 2 = nI (l ++ pl_ s w p part day).length := by
    intro j
    induction j with
    | zero =>
      intro n m1 o7 hn hF1 hL1 hr1
      rw [show min n (cN s 2) = cN s 2 by omega] at hL1 hr1 ⊢
      obtain ⟨m', g1, g2⟩ := fin m1 hF1 hL1 hr1
      refine ⟨m', ?_, g2⟩
      rw [b38_21, gb_pos (by rw [nI_leE (by omega) (by omega)]; omega)]
      exact g1
    | succ j ih =>
      intro n m1 o7 hn hF1 hL1 hr1
      have hP1 := hP.fr (hF1.mono fun _ _ h => DL.c h)
      obtain ⟨hX1, hO1, hV1, hNo, hg7, hg8, hg9, hs1, hs2, hs3⟩ := hP1
      by_cases hz : msk_ (asm_ s w p day) (cN s 2) / 2 ^ n = 0
      · have hf : ∀ a, min n (cN s 2) ≤ a → a < cN s 2 → asm_ s w p day a = false := by
          intro a h1 h2
          have h3 := msk_tb (asm_ s w p day) a (cN s 2)
          rw [decide_eq_true h2, Bool.true_and] at h3
          rw [← h3]
          refine Nat.testBit_lt_two_pow (Nat.lt_of_lt_of_le ((Nat.div_eq_zero_iff_lt (Nat.two_pow_pos n)).mp hz) (Nat.pow_le_pow_right (by decide) (by omega)))
        obtain ⟨t1, t2⟩ := asg_tail s w p part day (Nat.min_le_right n (cN s 2)) hf
        rw [← t1] at hL1 hr1
        rw [← t2]
        obtain ⟨m', g1, g2⟩ := fin m1 hF1 hL1 hr1
        refine ⟨m', ?_, g2⟩
        rw [b38_21, gb_neg (by rw [nI_leE (by omega) (by omega)]; omega), nI_shr (by omega) (by omega), gb_pos (by rw [hz]; rfl)]
        exact g1
      · have hb := msk_tb (asm_ s w p day) n (cN s 2)
        have hzn : ¬ nI (msk_ (asm_ s w p day) (cN s 2) / 2 ^ n) = 0 := by
          have := Nat.div_le_self (msk_ (asm_ s w p day) (cN s 2)) (2 ^ n)
          rw [nI_eq0 (by omega)]; exact hz
        rw [b38_21, gb_neg (by rw [nI_leE (by omega) (by omega)]; omega), nI_tb (by omega) (by omega), nI_shr (by omega) (by omega), gb_neg hzn, hb]
        have hg8' : ¬ gr_ m1 (N + 14) 8 = 0 := by rw [hg8]; omega
        simp (disch := omega) only [gq_true, gb_true, gb_false, true_and, and_true, eq_self, not_false_eq_true, not_true_eq_false, true_or, or_true, false_or, or_false, false_and, and_false, c0_v, ci_v, cl_v, cf_v, pk_mul, nI_add, nI_clamp, nI_lt0, nI_0le, nI_eq0, nI_lt0r, nI_ltE, nI_leE, nI_eqE, nI_m1, in_t, ba0, ba1, Nat.one_ne_zero, Nat.reduceEqDiff, Nat.reduceLeDiff, Nat.add_eq_zero_iff, xk14 hX1, eq_false hg8']
        by_cases hlt : n < cN s 2
        · rw [decide_eq_true hlt, Bool.true_and]
          rw [show min n (cN s 2) = n by omega] at hL1 hr1 ⊢
          have hm1 : min (n + 1) (cN s 2) = n + 1 := by omega
          cases ha : asm_ s w p day n with
          | false =>
            rw [cond_false, gb_pos nI_0]
            have h1 : asg_ s w p part day (n + 1) = asg_ s w p part day n := by rw [asg_, ha, if_neg (by rintro ⟨z, -⟩; cases z), List.append_nil]
            have h2 : asu_ s w p part day (n + 1) = asu_ s w p part day n := by show asu_ s w p part day n + (bif asm_ s w p day n then _ else 0) = _; rw [ha]; rfl
            have := ih (n + 1) m1 o7 (by omega) hF1 (by rw [hm1, h1]; exact hL1) (by rw [hm1, h1]; exact hr1)
            rw [hm1, h2] at this
            exact this
          | true =>
            rw [cond_true, gb_neg (by decide)]
            obtain ⟨e1, b1⟩ := (wa_c hA n hlt).c (by decide)
            obtain ⟨e2, b2⟩ := (wa_t hA n hlt).c (by omega)
            have hmul : part * cN s (594 + 6 * n + 3) ≤ 9999999 * 100 := Nat.mul_le_mul hpart (by omega)
            have h2 : asu_ s w p part day (n + 1) = asu_ s w p part day n + part * cN s (594 + 6 * n + 3) / 100 := by show asu_ s w p part day n + (bif asm_ s w p day n then _ else 0) = _; rw [ha]; rfl
            have h3 := asu_mono s w p part day (show n + 1 ≤ cN s 2 from hlt)
            simp (disch := omega) only [gq_true, gb_true, gb_false, true_and, and_true, eq_self, not_false_eq_true, not_true_eq_false, true_or, or_true, false_or, or_false, false_and, and_false, c0_v, ci_v, cl_v, cf_v, pk_mul, nI_add, nI_clamp, nI_lt0, nI_0le, nI_eq0, nI_lt0r, nI_ltE, nI_leE, nI_eqE, nI_m1, in_t, ba0, ba1, Nat.one_ne_zero, Nat.reduceEqDiff, Nat.reduceLeDiff, Nat.add_eq_zero_iff, hg8, ok13 hO1, xas hO1 hV1 n 3 (by omega) (by omega), x219]
            rw [e1, pct_nI (by omega), pk_sub (by omega), show part - asu_ s w p part day n - part * cN s (594 + 6 * n + 3) / 100 = part - asu_ s w p part day (n + 1) by omega]
            by_cases hpos : 0 < part * cN s (594 + 6 * n + 3) / 100
            · have h1 : asg_ s w p part day (n + 1) = asg_ s w p part day n ++ [(w, cN s (594 + 6 * n + 2), part * cN s (594 + 6 * n + 3) / 100, 0)] := by rw [asg_, ha, if_pos ⟨rfl, hpos⟩]
              have hl1 : (l ++ asg_ s w p part day n).length < 64 := by
                have h5 := asg_lmono s w p part day (show n + 1 ≤ cN s 2 from hlt)
                rw [h1, List.length_append] at h5
                simp only [List.length_singleton] at h5
                rw [List.length_append] at hlen ⊢
                omega
              obtain ⟨m2, g1, g2, g3, g4⟩ := x129 (sa := sa) (sv := sv) (d := d) (xt21 hX1) hl1 hr1 hL1 (w, cN s (594 + 6 * n + 2), part * cN s (594 + 6 * n + 3) / 100, 0) rfl
              rw [gb_neg (by rw [nI_le0 (by omega)]; omega)]
              simp (disch := omega) only [gq_true, gb_true, gb_false, true_and, and_true, eq_self, not_false_eq_true, not_true_eq_false, true_or, or_true, false_or, or_false, false_and, and_false, c0_v, ci_v, cl_v, cf_v, pk_mul, nI_add, nI_clamp, nI_lt0, nI_0le, nI_eq0, nI_lt0r, nI_ltE, nI_leE, nI_eqE, nI_m1, in_t, ba0, ba1, Nat.one_ne_zero, Nat.reduceEqDiff, Nat.reduceLeDiff, Nat.add_eq_zero_iff, xk14 hX1, xr14_6 hX1, hg8, ok13 hO1, xas hO1 hV1 n 2 (by omega) (by omega), e2, xk21 hX1]
              rw [g1, c0_v]
              have := ih (n + 1) m2 (some (.int (nI (part * cN s (594 + 6 * n + 3) / 100)))) (by omega) (hF1.trans (g2.mono fun a k h => h)) (by rw [hm1, h1, ← List.append_assoc]; exact g3) (by rw [hm1, h1, ← List.append_assoc]; exact g4)
              rw [hm1] at this
              exact this
            · have h1 : asg_ s w p part day (n + 1) = asg_ s w p part day n := by rw [asg_, if_neg (fun z => hpos z.2), List.append_nil]
              rw [gb_pos (by rw [nI_le0 (by omega)]; omega)]
              have := ih (n + 1) m1 (some (.int (nI (part * cN s (594 + 6 * n + 3) / 100)))) (by omega) hF1 (by rw [hm1, h1]; exact hL1) (by rw [hm1, h1]; exact hr1)
              rw [hm1] at this
              exact this
        · rw [decide_eq_false hlt, Bool.false_and, cond_false, gb_pos nI_0]
          have hm1 : min (n + 1) (cN s 2) = min n (cN s 2) := by omega
          have := ih (n + 1) m1 o7 (by omega) hF1 (by rw [hm1]; exact hL1) (by rw [hm1]; exact hr1)
          rw [hm1] at this
          exact this
  obtain ⟨hX0, hO0, hV0, hNo, hg7, hg8, hg9, hs1, hs2, hs3⟩ := hP
  have h0 := step 16 0 m none (Nat.zero_add _) (Fr.refl _ _) (by rw [Nat.zero_min]; show LN m (N + 22) (l ++ []); rw [List.append_nil]; exact hL) (by rw [Nat.zero_min]; show gi_ m (N + 21) 2 = nI (l ++ []).length; rw [List.append_nil]; exact hr)
  rw [Nat.zero_min] at h0
  rw [c38, b38_0]
  simp (disch := omega) only [gq_true, gb_true, gb_false, true_and, and_true, eq_self, not_false_eq_true, not_true_eq_false, true_or, or_true, false_or, or_false, false_and, and_false, c0_v, ci_v, cl_v, cf_v, pk_mul, nI_add, nI_clamp, nI_lt0, nI_0le, nI_eq0, nI_lt0r, nI_ltE, nI_leE, nI_eqE, nI_m1, in_t, ba0, ba1, Nat.one_ne_zero, Nat.reduceEqDiff, Nat.reduceLeDiff, Nat.add_eq_zero_iff, xk14 hX0, xr14_1 hX0, x33 (N + 16) 120 (w * 10 + p) (xk16 hX0) (by omega) (by omega), hs2 w p hw hp]
  exact h0
theorem x36 {day : Nat} (hP : PD m N o s q day) (hC : WC s) (hW : WW s) (w c : Nat) (hw : w < cN s 1) (hc : c ≤ 9999999) (f : Nat → Nat) (hf : ∀ u, u < 12 → gi_ m (N + 18) u = nI (f u)) : ∃ m', am_ca sa sv (d + 3) 36 [.ref (N + 14), .int (nI w), .int (nI c)] m = some (.inl (some (.int (nI (srp_ s w c (cN s (59 + 48 * w)))))), m') ∧ Fr (fun a _ => a = N + 18) m m' ∧ ∀ u, u < 12 → gi_ m' (N + 18) u = nI (sra_ s w c (cN s (59 + 48 * w)) f u) := by
  obtain ⟨-, b0⟩ := (wc_nw hC).c (by decide)
  obtain ⟨e1, b1⟩ := (ww_no hW w hw).c (by decide)
  have step : ∀ n i m1 (o6 : Option Value), i + n = cN s (59 + 48 * w) → Fr (fun a _ => a = N + 18) m m1 → (∀ u, u < 12 → gi_ m1 (N + 18) u = nI (sra_ s w c i f u)) → ∃ m', r36 sa sv (d + 2) 26 [some (.ref (N + 14)), some (.int (nI w)), some (.int (nI c)), some (.int (nI (srp_ s w c i))), some (.int (nI (cN s (59 + 48 * w)))), some (.int (nI i)), o6] [] m1 = some (.inl (some (.int (nI (srp_ s w c (cN s (59 + 48 * w)))))), m') ∧ Fr (fun a _ => a = N + 18) m m' ∧ ∀ u, u < 12 → gi_ m' (N + 18) u = nI (sra_ s w c (cN s (59 + 48 * w)) f u) := by
    intro n
    induction n with
    | zero =>
      intro i m1 o6 hi hF1 h1
      have e : i = cN s (59 + 48 * w) := by omega
      refine ⟨m1, ?_, hF1, by rw [← e]; exact h1⟩
      rw [b36_26]
      simp (disch := omega) only [gq_true, gb_true, gb_false, true_and, and_true, eq_self, not_false_eq_true, not_true_eq_false, true_or, or_true, false_or, or_false, false_and, and_false, c0_v, ci_v, cl_v, cf_v, pk_mul, nI_add, nI_clamp, nI_lt0, nI_0le, nI_eq0, nI_lt0r, nI_ltE, nI_leE, nI_eqE, nI_m1, in_t, ba0, ba1, Nat.one_ne_zero, Nat.reduceEqDiff, Nat.reduceLeDiff, Nat.add_eq_zero_iff]
      rw [gb_pos (by omega), e]
    | succ n ih =>
      intro i m1 o6 hi hF1 h1
      have hP1 := hP.fr (hF1.mono fun a k h => Or.inl h)
      obtain ⟨hX1, hO1, hV1, hNo, hg7, hg8, hg9, hs1, hs2, hs3⟩ := hP1
      obtain ⟨e2, b2⟩ := (ww_ow hW w i hw (by omega)).c (by omega)
      obtain ⟨e3, b3⟩ := (ww_oc hW w i hw (by omega)).c (by decide)
      have hmul : c * cN s (63 + 48 * w + i) ≤ 9999999 * 100 := Nat.mul_le_mul hc (by omega)
      have hg7' : ¬ gr_ m1 (N + 14) 7 = 0 := by rw [hg7]; omega
      have hF2 : Fr (fun a _ => a = N + 18) m (si_ m1 (N + 18) (cN s (60 + 48 * w + i)) (gi_ m1 (N + 18) (cN s (60 + 48 * w + i)) + nI (c * cN s (63 + 48 * w + i) / 100))) := hF1.si rfl
      have := ih (i + 1) _ (some (.int (nI (c * cN s (63 + 48 * w + i) / 100)))) (by omega) hF2 (fun u hu => by
        rw [gi_si]
        show _ = nI (sra_ s w c i f u + (if u = cN s (60 + 48 * w + i) then c * cN s (63 + 48 * w + i) / 100 else 0))
        by_cases e : u = cN s (60 + 48 * w + i)
        · rw [if_pos ⟨rfl, e⟩, if_pos e, ← e, h1 u hu, nI_add]
        · rw [if_neg (fun z => e z.2), if_neg e, h1 u hu]; rfl)
      rw [b36_26]
      simp (disch := omega) only [gq_true, gb_true, gb_false, true_and, and_true, eq_self, not_false_eq_true, not_true_eq_false, true_or, or_true, false_or, or_false, false_and, and_false, c0_v, ci_v, cl_v, cf_v, pk_mul, nI_add, nI_clamp, nI_lt0, nI_0le, nI_eq0, nI_lt0r, nI_ltE, nI_leE, nI_eqE, nI_m1, in_t, ba0, ba1, Nat.one_ne_zero, Nat.reduceEqDiff, Nat.reduceLeDiff, Nat.add_eq_zero_iff, xk14 hX1, eq_false hg7']
      simp (disch := omega) only [gq_true, gb_true, gb_false, true_and, and_true, eq_self, not_false_eq_true, not_true_eq_false, true_or, or_true, false_or, or_false, false_and, and_false, c0_v, ci_v, cl_v, cf_v, pk_mul, nI_add, nI_clamp, nI_lt0, nI_0le, nI_eq0, nI_lt0r, nI_ltE, nI_leE, nI_eqE, nI_m1, in_t, ba0, ba1, Nat.one_ne_zero, Nat.reduceEqDiff, Nat.reduceLeDiff, Nat.add_eq_zero_iff, hg7, ok1 hO1, x18 hO1 hV1 w i (by omega) (by omega), x219, e3, pct_nI (show c * cN s (63 + 48 * w + i) < 2 ^ 31 by omega), xk14 hX1, xr14_3 hX1, x17 hO1 hV1 w i (by omega) (by omega), e2, x34 (N + 18) 12 (cN s (60 + 48 * w + i)) _ (xk18 hX1) (by omega) (by omega)]
      rw [gb_neg (by omega)]
      exact this
  obtain ⟨hX0, hO0, hV0, hNo, hg7, hg8, hg9, hs1, hs2, hs3⟩ := hP
  have hg7' : ¬ gr_ m (N + 14) 7 = 0 := by rw [hg7]; omega
  rw [c36, b36_0]
  simp (disch := omega) only [gq_true, gb_true, gb_false, true_and, and_true, eq_self, not_false_eq_true, not_true_eq_false, true_or, or_true, false_or, or_false, false_and, and_false, c0_v, ci_v, cl_v, cf_v, pk_mul, nI_add, nI_clamp, nI_lt0, nI_0le, nI_eq0, nI_lt0r, nI_ltE, nI_leE, nI_eqE, nI_m1, in_t, ba0, ba1, Nat.one_ne_zero, Nat.reduceEqDiff, Nat.reduceLeDiff, Nat.add_eq_zero_iff, xk14 hX0, eq_false hg7']
  simp (disch := omega) only [gq_true, gb_true, gb_false, true_and, and_true, eq_self, not_false_eq_true, not_true_eq_false, true_or, or_true, false_or, or_false, false_and, and_false, c0_v, ci_v, cl_v, cf_v, pk_mul, nI_add, nI_clamp, nI_lt0, nI_0le, nI_eq0, nI_lt0r, nI_ltE, nI_leE, nI_eqE, nI_m1, in_t, ba0, ba1, Nat.one_ne_zero, Nat.reduceEqDiff, Nat.reduceLeDiff, Nat.add_eq_zero_iff, hg7, ok1 hO0, x16 hO0 hV0 hC w (by omega), if_pos hw, e1]
  exact step _ 0 m none (Nat.zero_add _) (Fr.refl _ _) hf
end R61
