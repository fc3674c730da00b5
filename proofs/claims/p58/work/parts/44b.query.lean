/-! the class answers: the rest of its reading methods -/
def cnt_ (s : Nat → Int32) (c : Nat) : Int32 := if c < 5 then s c else if c = 5 then s 7 else s 5
section R44
variable {sa sv d o N B : Nat} {m : am_M} {s : Nat → Int32} {q : Nat → Int64}
theorem x162 (h : CQ B m N o s q) (l0 : Int32) : am_ca sa sv (d + 2) 162 [.ref N, .int l0] m = (bif inR l0 7 then some (.inl (some (.int (cnt_ s l0.toNatClampNeg))), m) else some (.inr 1, th_ m)) := by
  have h' := h
  obtain ⟨hX, hN, ho, ho0, hO, hV, hF, hB⟩ := h
  have hz := l_eqF (Nat.pos_iff_ne_zero.mp ho0)
  have hC := wf_c hF
  have hW := wf_w hF
  have hA := wf_a hF
  have hD := wf_d hF
  have hK := wf_k hF
  obtain ⟨e0, b0⟩ := (wc_np hC).c (by decide)
  obtain ⟨e1, b1⟩ := (wc_nw hC).c (by decide)
  obtain ⟨e2, b2⟩ := (wc_na hC).c (by decide)
  obtain ⟨e3, b3⟩ := (wc_nd hC).c (by decide)
  obtain ⟨e4, b4⟩ := (wc_day hC).c (by decide)
  obtain ⟨e5, b5⟩ := (wk_c hK).c (by omega)
  obtain ⟨e6, b6⟩ := (wc_nl hC).c (by decide)
  have e7' : cN s 7 = min (cN s 5) 5 := cN_ (wk_k hK) (by omega)
  have e7 : s 7 = nI (cN s 7) := by rw [e7']; exact wk_k hK
  have b7 : cN s 7 < 6 := by omega
  cases hb : inR l0 7 with
  | false =>
    have hne : ∀ k, k < 7 → (l0 = nI k) = False := fun k hk => eq_false (fun z => by rw [z, inR_nI (by omega), decide_eq_true hk] at hb; cases hb)
    rw [c162, b162_0]
    simp (disch := omega) only [gq_true, gb_true, gb_false, true_and, and_true, eq_self, not_false_eq_true, not_true_eq_false, true_or, or_true, false_or, or_false, false_and, and_false, c0_v, ci_v, cl_v, cf_v, pk_mul, nI_add, nI_clamp, nI_lt0, nI_0le, nI_eq0, nI_lt0r, nI_ltE, nI_leE, nI_eqE, nI_m1, in_t, ba0, ba1, Nat.one_ne_zero, Nat.reduceEqDiff, Nat.reduceLeDiff, Nat.add_eq_zero_iff, xk0 hX, ho, ok0 hO, ok1 hO, or0_1 hO, ok13 hO, or0_2 hO, ok15 hO, or0_3 hO, ok17 hO, or0_4 hO, ok19 hO, or0_5 hO, hz, c0_x, ci_x, cl_x, cf_x, xg_v, cond_true, cond_false, ov_np hV, ov_nw hV, ov_na hV, ov_nd hV, ov_nl hV, ov_nc hV, ov_day hV, x215_0, x215_1, hne 0 (by decide), hne 1 (by decide), hne 2 (by decide), hne 3 (by decide), hne 4 (by decide), hne 5 (by decide), hne 6 (by decide)]
  | true =>
    obtain ⟨k0, hk0, rfl⟩ := (inR_t (by decide)).mp hb
    rw [c162, b162_0]
    rcases (show k0 = 0 ∨ k0 = 1 ∨ k0 = 2 ∨ k0 = 3 ∨ k0 = 4 ∨ k0 = 5 ∨ k0 = 6 by omega) with rfl | rfl | rfl | rfl | rfl | rfl | rfl
    all_goals (simp (disch := omega) only [gq_true, gb_true, gb_false, true_and, and_true, eq_self, not_false_eq_true, not_true_eq_false, true_or, or_true, false_or, or_false, false_and, and_false, c0_v, ci_v, cl_v, cf_v, pk_mul, nI_add, nI_clamp, nI_lt0, nI_0le, nI_eq0, nI_lt0r, nI_ltE, nI_leE, nI_eqE, nI_m1, in_t, ba0, ba1, Nat.one_ne_zero, Nat.reduceEqDiff, Nat.reduceLeDiff, Nat.add_eq_zero_iff, xk0 hX, ho, ok0 hO, ok1 hO, or0_1 hO, ok13 hO, or0_2 hO, ok15 hO, or0_3 hO, ok17 hO, or0_4 hO, ok19 hO, or0_5 hO, hz, c0_x, ci_x, cl_x, cf_x, xg_v, cond_true, cond_false, ov_np hV, ov_nw hV, ov_na hV, ov_nd hV, ov_nl hV, ov_nc hV, ov_day hV, x215_0, x215_1, x60 hO hV hK hB]; rfl)
theorem x172 (h : CQ B m N o s q) (l0 l1 : Int32) : am_ca sa sv (d + 3) 172 [.ref N, .int l0, .int l1] m = (bif inR l0 (cN s 2) then (bif inR l1 7 then some (.inl (some (.int (if l1 = nI 6 then tr_ (isf_ s l0.toNatClampNeg (cN s 4)) else s (594 + 6 * l0.toNatClampNeg + l1.toNatClampNeg)))), m) else some (.inr 1, th_ m)) else some (.inr 2, th_ m)) := by
  have h' := h
  obtain ⟨hX, hN, ho, ho0, hO, hV, hF, hB⟩ := h
  have hz := l_eqF (Nat.pos_iff_ne_zero.mp ho0)
  have hC := wf_c hF
  have hW := wf_w hF
  have hA := wf_a hF
  have hD := wf_d hF
  have hK := wf_k hF
  obtain ⟨e0, b0⟩ := (wc_np hC).c (by decide)
  obtain ⟨e1, b1⟩ := (wc_nw hC).c (by decide)
  obtain ⟨e2, b2⟩ := (wc_na hC).c (by decide)
  obtain ⟨e3, b3⟩ := (wc_nd hC).c (by decide)
  obtain ⟨e4, b4⟩ := (wc_day hC).c (by decide)
  obtain ⟨e5, b5⟩ := (wk_c hK).c (by omega)
  obtain ⟨e6, b6⟩ := (wc_nl hC).c (by decide)
  have e7' : cN s 7 = min (cN s 5) 5 := cN_ (wk_k hK) (by omega)
  have e7 : s 7 = nI (cN s 7) := by rw [e7']; exact wk_k hK
  have b7 : cN s 7 < 6 := by omega
  cases hb : inR l0 (cN s 2) with
  | false =>
    rw [c172, b172_0]
    simp (disch := omega) only [gq_true, gb_true, gb_false, true_and, and_true, eq_self, not_false_eq_true, not_true_eq_false, true_or, or_true, false_or, or_false, false_and, and_false, c0_v, ci_v, cl_v, cf_v, pk_mul, nI_add, nI_clamp, nI_lt0, nI_0le, nI_eq0, nI_lt0r, nI_ltE, nI_leE, nI_eqE, nI_m1, in_t, ba0, ba1, Nat.one_ne_zero, Nat.reduceEqDiff, Nat.reduceLeDiff, Nat.add_eq_zero_iff, xk0 hX, ho, ok0 hO, ok1 hO, or0_1 hO, ok13 hO, or0_2 hO, ok15 hO, or0_3 hO, ok17 hO, or0_4 hO, ok19 hO, or0_5 hO, hz, c0_x, ci_x, cl_x, cf_x, xg_v, cond_true, cond_false, ov_np hV, ov_nw hV, ov_na hV, ov_nd hV, ov_nl hV, ov_nc hV, ov_day hV, x215_0, x215_1, e2, x214f _ _ (by omega) hb]
  | true =>
    obtain ⟨k0, hk0, rfl⟩ := (inR_t (by omega)).mp hb
    rw [nI_clamp (by omega)]
    cases hc : inR l1 7 with
    | false =>
      rw [c172, b172_0]
      simp (disch := omega) only [gq_true, gb_true, gb_false, true_and, and_true, eq_self, not_false_eq_true, not_true_eq_false, true_or, or_true, false_or, or_false, false_and, and_false, c0_v, ci_v, cl_v, cf_v, pk_mul, nI_add, nI_clamp, nI_lt0, nI_0le, nI_eq0, nI_lt0r, nI_ltE, nI_leE, nI_eqE, nI_m1, in_t, ba0, ba1, Nat.one_ne_zero, Nat.reduceEqDiff, Nat.reduceLeDiff, Nat.add_eq_zero_iff, xk0 hX, ho, ok0 hO, ok1 hO, or0_1 hO, ok13 hO, or0_2 hO, ok15 hO, or0_3 hO, ok17 hO, or0_4 hO, ok19 hO, or0_5 hO, hz, c0_x, ci_x, cl_x, cf_x, xg_v, cond_true, cond_false, ov_np hV, ov_nw hV, ov_na hV, ov_nd hV, ov_nl hV, ov_nc hV, ov_day hV, x215_0, x215_1, e2, x214s _ _ (by omega) hk0, b172_29]
      by_cases hn : l1 < 0
      · rw [gb_pos hn]
      · rw [gb_neg hn, gb_pos]
        refine Int32.not_le.mp fun z => ?_
        have := inR_c (p := l1) (n := 7) (by decide) hn (Int32.not_le.mpr (by rw [Int32.lt_iff_toInt_lt, nI_toInt (by decide)]; rw [Int32.le_iff_toInt_le, nI_toInt (by decide)] at z; omega))
        rw [hc] at this; cases this
    | true =>
      obtain ⟨k1, hk1, rfl⟩ := (inR_t (by omega)).mp hc
      rw [c172, b172_0]
      simp (disch := omega) only [gq_true, gb_true, gb_false, true_and, and_true, eq_self, not_false_eq_true, not_true_eq_false, true_or, or_true, false_or, or_false, false_and, and_false, c0_v, ci_v, cl_v, cf_v, pk_mul, nI_add, nI_clamp, nI_lt0, nI_0le, nI_eq0, nI_lt0r, nI_ltE, nI_leE, nI_eqE, nI_m1, in_t, ba0, ba1, Nat.one_ne_zero, Nat.reduceEqDiff, Nat.reduceLeDiff, Nat.add_eq_zero_iff, xk0 hX, ho, ok0 hO, ok1 hO, or0_1 hO, ok13 hO, or0_2 hO, ok15 hO, or0_3 hO, ok17 hO, or0_4 hO, ok19 hO, or0_5 hO, hz, c0_x, ci_x, cl_x, cf_x, xg_v, cond_true, cond_false, ov_np hV, ov_nw hV, ov_na hV, ov_nd hV, ov_nl hV, ov_nc hV, ov_day hV, x215_0, x215_1, e2, x214s _ _ (by omega) hk0, b172_29, eq_false (show ¬ 6 < k1 by omega)]
      by_cases h6 : k1 = 6
      · rw [gb_pos h6, if_pos h6, e4, x73 hO hV hC hA k0 (cN s 4) hk0 (by omega), ci_v, tr_0]
        cases isf_ s k0 (cN s 4) with
        | true => rw [gb_neg (by decide)]; rfl
        | false => rw [gb_pos rfl]; rfl
      · rw [gb_neg h6, if_neg h6, xas hO hV k0 k1 (by omega) (by omega), ci_v]
end R44
