/-! the reference books: the lines' sums -/
def bD3 (s : Nat → Int32) (l : List Ln) (i k : Nat) : Nat := if k < 10 then 0 else if k < 50 then (if (k - 10) % 4 = 0 then eg_ l ((k - 10) / 4) i else if (k - 10) % 4 = 1 then dw_ s l ((k - 10) / 4) i else 0) else if k < 80 then (if (k - 50) % 3 = 0 then eg_ l ((k - 50) / 3) i else if (k - 50) % 3 = 1 then dw_ s l ((k - 50) / 3) i else 0) else if k < 200 then ew_ l ((k - 80) / 12) ((k - 80) % 12) i else 0
theorem bD3_0 (s : Nat → Int32) (l : List Ln) (k : Nat) : bD3 s l 0 k = 0 := by
  unfold bD3
  repeat' split
  all_goals rfl
theorem bD3_s {s : Nat → Int32} {l : List Ln} {i : Nat} {x : Ln} (hx : l[i]? = some x) (hw : x.1 < 12) (hp : x.2.1 < 10) (k : Nat) : bD3 s l (i + 1) k = bD3 s l i k + (if k = 80 + 12 * x.2.1 + x.1 ∨ k = 10 + 4 * x.2.1 + 0 ∨ k = 50 + 3 * x.2.1 + 0 then x.2.2.1 else if k = 10 + 4 * x.2.1 + 1 ∨ k = 50 + 3 * x.2.1 + 1 then wd_ s l i else 0) := by
  unfold bD3
  by_cases k1 : k < 10
  · rw [if_pos k1, if_pos k1, if_neg (by omega), if_neg (by omega)]
  · rw [if_neg k1, if_neg k1]
    by_cases k2 : k < 50
    · rw [if_pos k2, if_pos k2, eg_s hx, dw_s hx]
      by_cases c0 : (k - 10) % 4 = 0
      · rw [if_pos c0, if_pos c0]
        by_cases e : (k - 10) / 4 = x.2.1
        · rw [if_pos e, if_pos (by omega)]
        · rw [if_neg e, if_neg (by omega), if_neg (by omega)]
      · rw [if_neg c0, if_neg c0]
        by_cases c1 : (k - 10) % 4 = 1
        · rw [if_pos c1, if_pos c1]
          by_cases e : (k - 10) / 4 = x.2.1
          · rw [if_pos e, if_neg (by omega), if_pos (by omega)]
          · rw [if_neg e, if_neg (by omega), if_neg (by omega)]
        · rw [if_neg c1, if_neg c1, if_neg (by omega), if_neg (by omega)]
    · rw [if_neg k2, if_neg k2]
      by_cases k3 : k < 80
      · rw [if_pos k3, if_pos k3, eg_s hx, dw_s hx]
        by_cases c0 : (k - 50) % 3 = 0
        · rw [if_pos c0, if_pos c0]
          by_cases e : (k - 50) / 3 = x.2.1
          · rw [if_pos e, if_pos (by omega)]
          · rw [if_neg e, if_neg (by omega), if_neg (by omega)]
        · rw [if_neg c0, if_neg c0]
          by_cases c1 : (k - 50) % 3 = 1
          · rw [if_pos c1, if_pos c1]
            by_cases e : (k - 50) / 3 = x.2.1
            · rw [if_pos e, if_neg (by omega), if_pos (by omega)]
            · rw [if_neg e, if_neg (by omega), if_neg (by omega)]
          · rw [if_neg c1, if_neg c1, if_neg (by omega), if_neg (by omega)]
      · rw [if_neg k3, if_neg k3]
        by_cases k4 : k < 200
        · rw [if_pos k4, if_pos k4, ew_s hx]
          by_cases e : (k - 80) / 12 = x.2.1 ∧ (k - 80) % 12 = x.1
          · rw [if_pos e, if_pos (by omega)]
          · rw [if_neg e, if_neg (by omega), if_neg (by omega)]
        · rw [if_neg k4, if_neg k4, if_neg (by omega), if_neg (by omega)]
theorem eg_b {l : List Ln} {b : Nat} (h : lsm_ l ≤ b) (p i : Nat) (hi : i ≤ l.length) : eg_ l p i ≤ b := by
  have h1 := eg_le (l := l) p i hi
  have h2 : lsm_ (l.take i) ≤ lsm_ l := by
    rw [show lsm_ l = lsm_ (l.take i ++ l.drop i) by rw [List.take_append_drop], lsm_app]
    omega
  omega
theorem bD3_b {s : Nat → Int32} {l : List Ln} {b : Nat} (h : lsm_ l ≤ b) (i k : Nat) (hi : i ≤ l.length) : bD3 s l i k ≤ b := by
  have h1 := fun p => eg_b h p i hi
  have h2 : ∀ p, dw_ s l p i ≤ b := fun p => by have := dw_og (s := s) (l := l) p i; have := h1 p; omega
  have h3 : ∀ p w, ew_ l p w i ≤ b := fun p w => by have := ew_le (l := l) p w i; have := h1 p; omega
  unfold bD3
  repeat' split
  all_goals first | exact Nat.zero_le _ | exact h1 _ | exact h2 _ | exact h3 _ _
section R72
variable {sa sv d N : Nat} {m : am_M} {s : Nat → Int32}
theorem y339_165 (hX : XS m N) (hC : WC s) (w a : Int32) {l : List Ln} (hl : l.length ≤ 64) (hb : lsm_ l ≤ 9999999) (hG : ∀ x ∈ l, GL s x) (hL : LF m (N + 255) l (wd_ s l)) (hr : gi_ m (N + 243) 33 = nI l.length) (o4 o5 : Option Value) : ∃ m' o4' o5', r339 sa sv d 165 [some (.ref (N + 243)), some (.int w), some (.int a), some (.int (nI 0)), o4, o5] [] m = r339 sa sv d 308 [some (.ref (N + 243)), some (.int w), some (.int a), some (.int (nI 0)), o4', o5'] [] m' ∧ Fr (RB N) m m' ∧ gi_ m' (N + 245) = gi_ m (N + 245) ∧ ∀ k, gl_ m' (N + 249) k = gl_ m (N + 249) k + (nI (bD3 s l l.length k)).toInt64 := by
  have hnp := isN_lt (wc_np hC) (by decide)
  have hnw := isN_lt (wc_nw hC) (by decide)
  have step : ∀ j i m1 o4 o5, i + j = l.length → Fr (RB N) m m1 → gi_ m1 (N + 245) = gi_ m (N + 245) → (∀ k, gl_ m1 (N + 249) k = gl_ m (N + 249) k + (nI (bD3 s l i k)).toInt64) → ∃ m' o4' o5', r339 sa sv d 165 [some (.ref (N + 243)), some (.int w), some (.int a), some (.int (nI i)), o4, o5] [] m1 = r339 sa sv d 308 [some (.ref (N + 243)), some (.int w), some (.int a), some (.int (nI 0)), o4', o5'] [] m' ∧ Fr (RB N) m m' ∧ gi_ m' (N + 245) = gi_ m (N + 245) ∧ ∀ k, gl_ m' (N + 249) k = gl_ m (N + 249) k + (nI (bD3 s l l.length k)).toInt64 := by
    intro j
    induction j with
    | zero =>
      intro i m1 o4 o5 hi h1 h2 h3
      obtain rfl : i = l.length := by omega
      have hX1 := hX.frB h1
      have e2 : gi_ m1 (N + 243) 33 = nI l.length := (h1.2.1 _ _ (by rintro (z | z) <;> omega)).trans hr
      refine ⟨m1, o4, o5, ?_, h1, h2, h3⟩
      rw [b339_165]
      simp (disch := omega) only [gq_true, gb_true, gb_false, true_and, and_true, eq_self, not_false_eq_true, not_true_eq_false, true_or, or_true, false_or, or_false, false_and, and_false, c0_v, ci_v, cl_v, cf_v, pk_mul, nI_add, nI_clamp, nI_lt0, nI_0le, nI_eq0, nI_lt0r, nI_ltE, nI_leE, nI_eqE, nI_m1, in_t, ba0, ba1, Nat.one_ne_zero, Nat.reduceEqDiff, Nat.reduceLeDiff, Nat.add_eq_zero_iff, xk243 hX1, e2, Nat.le_refl]
    | succ j ih =>
      intro i m1 o4 o5 hi h1 h2 h3
      have hX1 := hX.frB h1
      have e2 : gi_ m1 (N + 243) 33 = nI l.length := (h1.2.1 _ _ (by rintro (z | z) <;> omega)).trans hr
      have hx : l[i]? = some l[i] := List.getElem?_eq_getElem (by omega)
      generalize l[i] = x at hx
      obtain ⟨k0, k1, k2, k3⟩ := hL i x hx
      obtain ⟨q0, q1, q2, q3, q4⟩ := hG x (List.mem_of_getElem? hx)
      have hwd := wd_le (s := s) hx
      have f0 : ∀ M k, gi_ (sl_ m1 (N + 249) M k) (N + 255) = gi_ m1 (N + 255) := fun _ _ => rfl
      have fr : ∀ k, gi_ m1 (N + 255) k = gi_ m (N + 255) k := fun k => h1.2.1 _ _ (by rintro (z | z) <;> omega)
      rw [Nat.mul_comm i 4] at k0 k1 k2 k3
      have hnew : ∀ k, gl_ (ad_ (ad_ (ad_ (ad_ (ad_ m1 (N + 249) (80 + 12 * x.2.1 + x.1) (nI x.2.2.1).toInt64) (N + 249) (10 + 4 * x.2.1 + 0) (nI x.2.2.1).toInt64) (N + 249) (50 + 3 * x.2.1 + 0) (nI x.2.2.1).toInt64) (N + 249) (10 + 4 * x.2.1 + 1) (nI (wd_ s l i)).toInt64) (N + 249) (50 + 3 * x.2.1 + 1) (nI (wd_ s l i)).toInt64) (N + 249) k = gl_ m (N + 249) k + (nI (bD3 s l (i + 1) k)).toInt64 := by
        intro k
        have hbb := bD3_b (s := s) hb (i + 1) k (by omega)
        rw [bD3_s hx (by omega) (by omega)] at hbb ⊢
        rw [gl_ad, gl_ad, gl_ad, gl_ad, gl_ad, h3 k]
        by_cases c1 : k = 80 + 12 * x.2.1 + x.1
        · rw [if_neg (by omega), if_neg (by omega), if_neg (by omega), if_neg (by omega), if_pos ⟨rfl, c1⟩, if_pos (Or.inl c1), nL_acc]
          rw [if_pos (Or.inl c1)] at hbb; omega
        · by_cases c2 : k = 10 + 4 * x.2.1 + 0
          · rw [if_neg (by omega), if_neg (by omega), if_neg (by omega), if_pos ⟨rfl, c2⟩, if_neg (by omega), if_pos (by omega), nL_acc]
            rw [if_pos (by omega)] at hbb; omega
          · by_cases c3 : k = 50 + 3 * x.2.1 + 0
            · rw [if_neg (by omega), if_neg (by omega), if_pos ⟨rfl, c3⟩, if_neg (by omega), if_neg (by omega), if_pos (by omega), nL_acc]
              rw [if_pos (by omega)] at hbb; omega
            · by_cases c4 : k = 10 + 4 * x.2.1 + 1
              · rw [if_neg (by omega), if_pos ⟨rfl, c4⟩, if_neg (by omega), if_neg (by omega), if_neg (by omega), if_neg (by omega), if_pos (by omega), nL_acc]
                rw [if_neg (by omega), if_pos (by omega)] at hbb; omega
              · by_cases c5 : k = 50 + 3 * x.2.1 + 1
                · rw [if_pos ⟨rfl, c5⟩, if_neg (by omega), if_neg (by omega), if_neg (by omega), if_neg (by omega), if_neg (by omega), if_pos (by omega), nL_acc]
                  rw [if_neg (by omega), if_pos (by omega)] at hbb; omega
                · rw [if_neg (by omega), if_neg (by omega), if_neg (by omega), if_neg (by omega), if_neg (by omega), if_neg (by omega), if_neg (by omega)]
                  rfl
      obtain ⟨m', o4', o5', g⟩ := ih (i + 1) _ (some (.int (nI x.2.1))) (some (.int (nI 2))) (by omega) (((((h1.ad (Or.inl rfl)).ad (Or.inl rfl)).ad (Or.inl rfl)).ad (Or.inl rfl)).ad (Or.inl rfl)) h2 hnew
      refine ⟨m', o4', o5', ?_, g.2⟩
      refine Eq.trans ?_ g.1
      rw [b339_165]
      simp (disch := omega) only [gq_true, gb_true, gb_false, true_and, and_true, eq_self, not_false_eq_true, not_true_eq_false, true_or, or_true, false_or, or_false, false_and, and_false, c0_v, ci_v, cl_v, cf_v, pk_mul, nI_add, nI_clamp, nI_lt0, nI_0le, nI_eq0, nI_lt0r, nI_ltE, nI_leE, nI_eqE, nI_m1, in_t, ba0, ba1, Nat.one_ne_zero, Nat.reduceEqDiff, Nat.reduceLeDiff, Nat.add_eq_zero_iff, xk243 hX1, e2, eq_false (show ¬ l.length ≤ i by omega), xr243_28 hX1, xk255 hX1, xr243_19 hX1, xk249 hX1, fr, k0, k1, k2]
      rw [b339_224]
      simp (disch := omega) only [gq_true, gb_true, gb_false, true_and, and_true, eq_self, not_false_eq_true, not_true_eq_false, true_or, or_true, false_or, or_false, false_and, and_false, c0_v, ci_v, cl_v, cf_v, pk_mul, nI_add, nI_clamp, nI_lt0, nI_0le, nI_eq0, nI_lt0r, nI_ltE, nI_leE, nI_eqE, nI_m1, in_t, ba0, ba1, Nat.one_ne_zero, Nat.reduceEqDiff, Nat.reduceLeDiff, Nat.add_eq_zero_iff, gk_sl, gr_sl, gi_sl, xk243 hX1, xr243_28 hX1, xk255 hX1, xr243_19 hX1, xk249 hX1, fr, Nat.add_zero, k2, eq_false (show ¬ 2 ≤ 0 by omega)]
      rw [b339_224]
      simp (disch := omega) only [gq_true, gb_true, gb_false, true_and, and_true, eq_self, not_false_eq_true, not_true_eq_false, true_or, or_true, false_or, or_false, false_and, and_false, c0_v, ci_v, cl_v, cf_v, pk_mul, nI_add, nI_clamp, nI_lt0, nI_0le, nI_eq0, nI_lt0r, nI_ltE, nI_leE, nI_eqE, nI_m1, in_t, ba0, ba1, Nat.one_ne_zero, Nat.reduceEqDiff, Nat.reduceLeDiff, Nat.add_eq_zero_iff, gk_sl, gr_sl, gi_sl, xk243 hX1, xr243_28 hX1, xk255 hX1, xr243_19 hX1, xk249 hX1, fr, Nat.zero_add, k3, eq_false (show ¬ 2 ≤ 1 by omega)]
      rw [b339_224]
      simp (disch := omega) only [gq_true, gb_true, gb_false, true_and, and_true, eq_self, not_false_eq_true, not_true_eq_false, true_or, or_true, false_or, or_false, false_and, and_false, c0_v, ci_v, cl_v, cf_v, pk_mul, nI_add, nI_clamp, nI_lt0, nI_0le, nI_eq0, nI_lt0r, nI_ltE, nI_leE, nI_eqE, nI_m1, in_t, ba0, ba1, Nat.one_ne_zero, Nat.reduceEqDiff, Nat.reduceLeDiff, Nat.add_eq_zero_iff, Nat.reduceAdd, Nat.le_refl]
      rfl
  exact step l.length 0 m o4 o5 (Nat.zero_add _) (Fr.refl _ _) rfl (fun k => by rw [bD3_0, nL_0])
end R72
