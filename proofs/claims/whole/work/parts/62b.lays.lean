/-! the reference divides an income: the whole -/
def RLc (N : Nat) (a k : Nat) : Prop := a = N + 256 ∨ RLn N a k
theorem RLc.x {N a k : Nat} (h : RLc N a k) : RX N a k := by
  unfold RLc RLn at h
  unfold RX
  omega
section R62
variable {sa sv d N : Nat} {m : am_M} {s : Nat → Int32} {q : Nat → Int64}
theorem y328 (hR : RS m N s q) (hC : WC s) (hW : WW s) (hA : WA s) (w a day : Nat) (hw : w < cN s 1) (ha : a ≤ 9999999) (hd : day < 2 ^ 31) : ∃ m', am_ca sa sv (d + 5) 328 [.ref (N + 243), .int (nI w), .int (nI a), .int (nI day)] m = some (.inl none, m') ∧ Fr (RLc N) m m' ∧ (∀ u, u < 12 → gi_ m' (N + 256) u = nI ((dvd_ s day w a).1 u)) ∧ LN m' (N + 255) (dvd_ s day w a).2 ∧ gi_ m' (N + 243) 33 = nI (dvd_ s day w a).2.length := by
  have hnw := isN_lt (wc_nw hC) (by decide)
  -- the sources of a work
  have srcs : ∀ v, v < cN s 1 → ∀ (f : Nat → Nat) (l : List Ln), f v ≤ 9999999 → ∀ n i m1 (o7 : Option Value), i + n = cN s (59 + 48 * v) → Fr (RLc N) m m1 → (∀ u, u < 12 → gi_ m1 (N + 256) u = nI (sra_ s v (f v) i f u)) → LN m1 (N + 255) l → gi_ m1 (N + 243) 33 = nI l.length → (l ++ shs_ s v (spl_ s v day) (f v - srp_ s v (f v) (cN s (59 + 48 * v))) day (cN s (23 + 48 * v + spl_ s v day))).length ≤ 64 → ∃ m2 o7', r328 sa sv (d + 4) 69 [some (.ref (N + 243)), some (.int (nI w)), some (.int (nI a)), some (.int (nI day)), some (.int (nI v)), some (.int (nI (f v - srp_ s v (f v) i))), some (.int (nI i)), o7] [] m1 = r328 sa sv (d + 4) 39 [some (.ref (N + 243)), some (.int (nI w)), some (.int (nI a)), some (.int (nI day)), some (.int (nI v - nI 1)), some (.int (nI (f v - srp_ s v (f v) (cN s (59 + 48 * v))))), some (.int (nI (cN s (59 + 48 * v)))), o7'] [] m2 ∧ Fr (RLc N) m m2 ∧ (∀ u, u < 12 → gi_ m2 (N + 256) u = nI (sra_ s v (f v) (cN s (59 + 48 * v)) f u)) ∧ LN m2 (N + 255) (l ++ shs_ s v (spl_ s v day) (f v - srp_ s v (f v) (cN s (59 + 48 * v))) day (cN s (23 + 48 * v + spl_ s v day))) ∧ gi_ m2 (N + 243) 33 = nI (l ++ shs_ s v (spl_ s v day) (f v - srp_ s v (f v) (cN s (59 + 48 * v))) day (cN s (23 + 48 * v + spl_ s v day))).length := by
    intro v hv f l hfv n
    obtain ⟨e1, b1⟩ := (ww_no hW v hv).c (by decide)
    have hsr := srp_le hW (f v) hv (Nat.le_refl (cN s (59 + 48 * v)))
    induction n with
    | zero =>
      intro i m1 o7 hi hF1 hc1 hL1 hr1 h64
      have hR1 := hR.fr (hF1.mono fun _ _ h => RLc.x h)
      have e : i = cN s (59 + 48 * v) := by omega
      obtain ⟨m2, g1, g2, g3, g4⟩ := y327 (sa := sa) (sv := sv) (d := d) hR1 hC hW hA v (f v - srp_ s v (f v) (cN s (59 + 48 * v))) day hv (by omega) hd hL1 hr1 h64
      refine ⟨m2, o7, ?_, hF1.trans (g2.mono fun _ _ h => Or.inr h), fun u hu => ?_, g3, g4⟩
      · rw [b328_69]
        simp (disch := omega) only [gq_true, gb_true, gb_false, true_and, and_true, eq_self, not_false_eq_true, not_true_eq_false, true_or, or_true, false_or, or_false, false_and, and_false, c0_v, ci_v, cl_v, cf_v, pk_mul, nI_add, nI_clamp, nI_lt0, nI_0le, nI_eq0, nI_lt0r, nI_ltE, nI_leE, nI_eqE, nI_m1, in_t, ba0, ba1, Nat.one_ne_zero, Nat.reduceEqDiff, Nat.reduceLeDiff, Nat.add_eq_zero_iff, rk243 hR1, y256 hR1 v 41 (59 + 48 * v) (by omega) (by omega), e1]
        rw [gb_pos (by omega), e, g1, c0_v, dm_m]
      · rw [g2.2.1 _ _ (by rintro (z | ⟨z, -⟩) <;> omega), hc1 u hu, e]
    | succ n ih =>
      intro i m1 o7 hi hF1 hc1 hL1 hr1 h64
      have hR1 := hR.fr (hF1.mono fun _ _ h => RLc.x h)
      have hX1 := hR1.1
      obtain ⟨e2, b2⟩ := (ww_ow hW v i hv (by omega)).c (by omega)
      obtain ⟨e3, b3⟩ := (ww_oc hW v i hv (by omega)).c (by decide)
      have hmul : f v * cN s (63 + 48 * v + i) ≤ 9999999 * 100 := Nat.mul_le_mul hfv (by omega)
      have hcv : gi_ m1 (N + 256) v = nI (f v) := by
        rw [hc1 v (by omega), sra_ge s v (f v) f v i (fun j hj z => by have := isN_lt (ww_ow hW v j hv (by omega)) (by omega); omega)]
      have hs2 : srp_ s v (f v) (i + 1) = srp_ s v (f v) i + f v * cN s (63 + 48 * v + i) / 100 := rfl
      have hs3 := srp_le hW (f v) hv (show i + 1 ≤ cN s (59 + 48 * v) by omega)
      have hF2 : Fr (RLc N) m (si_ m1 (N + 256) (cN s (60 + 48 * v + i)) (gi_ m1 (N + 256) (cN s (60 + 48 * v + i)) + nI (f v * cN s (63 + 48 * v + i) / 100))) := hF1.si (Or.inl rfl)
      obtain ⟨m2, o7', g1, g2⟩ := ih (i + 1) _ (some (.int (nI (f v * cN s (63 + 48 * v + i) / 100)))) (by omega) hF2 (fun u hu => by
        rw [gi_si]
        show _ = nI (sra_ s v (f v) i f u + (if u = cN s (60 + 48 * v + i) then f v * cN s (63 + 48 * v + i) / 100 else 0))
        by_cases e : u = cN s (60 + 48 * v + i)
        · rw [if_pos ⟨rfl, e⟩, if_pos e, ← e, hc1 u hu, nI_add]
        · rw [if_neg (fun z => e z.2), if_neg e, hc1 u hu]; rfl) (hL1.eq (gi_siN (by omega))) (by rw [gi_si, if_neg (by omega)]; exact hr1) h64
      refine ⟨m2, o7', ?_, g2⟩
      rw [b328_69]
      simp (disch := omega) only [gq_true, gb_true, gb_false, true_and, and_true, eq_self, not_false_eq_true, not_true_eq_false, true_or, or_true, false_or, or_false, false_and, and_false, c0_v, ci_v, cl_v, cf_v, pk_mul, nI_add, nI_clamp, nI_lt0, nI_0le, nI_eq0, nI_lt0r, nI_ltE, nI_leE, nI_eqE, nI_m1, in_t, ba0, ba1, Nat.one_ne_zero, Nat.reduceEqDiff, Nat.reduceLeDiff, Nat.add_eq_zero_iff, rk243 hR1, y256 hR1 v 41 (59 + 48 * v) (by omega) (by omega), e1, xr243_29 hX1, xk256 hX1, hcv, y256 hR1 v (45 + i) (63 + 48 * v + i) (by omega) (by omega), e3, y324, pct_nI (show f v * cN s (63 + 48 * v + i) < 2 ^ 31 by omega), y256 hR1 v (42 + i) (60 + 48 * v + i) (by omega) (by omega), e2]
      rw [gb_neg (by omega), pk_sub (by omega), show f v - srp_ s v (f v) i - f v * cN s (63 + 48 * v + i) / 100 = f v - srp_ s v (f v) (i + 1) by omega]
      exact g1
  have step : ∀ v st m1 (o5 o6 o7 : Option Value), v ≤ cN s 1 → Fr (RLc N) m m1 → (∀ u, u < 12 → gi_ m1 (N + 256) u = nI (st.1 u)) → LN m1 (N + 255) st.2 → gi_ m1 (N + 243) 33 = nI st.2.length → lsm_ st.2 + sum_ st.1 v ≤ 9999999 → (dv_ s day v st).2.length ≤ 64 → ∃ m', r328 sa sv (d + 4) 39 [some (.ref (N + 243)), some (.int (nI w)), some (.int (nI a)), some (.int (nI day)), some (.int (nI v - nI 1)), o5, o6, o7] [] m1 = some (.inl none, m') ∧ Fr (RLc N) m m' ∧ (∀ u, u < 12 → gi_ m' (N + 256) u = nI ((dv_ s day v st).1 u)) ∧ LN m' (N + 255) (dv_ s day v st).2 ∧ gi_ m' (N + 243) 33 = nI (dv_ s day v st).2.length := by
    intro v
    induction v with
    | zero =>
      intro st m1 o5 o6 o7 _ hF1 hc1 hL1 hr1 _ _
      refine ⟨m1, ?_, hF1, hc1, hL1, hr1⟩
      rw [b328_39, gb_pos (by rw [dm_0]; trivial)]
    | succ v ih =>
      intro st m1 o5 o6 o7 hv hF1 hc1 hL1 hr1 hs h64
      have hR1 := hR.fr (hF1.mono fun _ _ h => RLc.x h)
      have hX1 := hR1.1
      have hsv : sum_ st.1 (v + 1) = sum_ st.1 v + st.1 v := rfl
      have hws := wk_sum hC hW hA day (show v < cN s 1 by omega) st
      rw [b328_39, dm_s]
      simp (disch := omega) only [gq_true, gb_true, gb_false, true_and, and_true, eq_self, not_false_eq_true, not_true_eq_false, true_or, or_true, false_or, or_false, false_and, and_false, c0_v, ci_v, cl_v, cf_v, pk_mul, nI_add, nI_clamp, nI_lt0, nI_0le, nI_eq0, nI_lt0r, nI_ltE, nI_leE, nI_eqE, nI_m1, in_t, ba0, ba1, Nat.one_ne_zero, Nat.reduceEqDiff, Nat.reduceLeDiff, Nat.add_eq_zero_iff, rk243 hR1, xr243_29 hX1, xk256 hX1, hc1 v (by omega), dm_m]
      by_cases h0 : st.1 v = 0
      · have e : wk_ s day v st = st := if_pos h0
        rw [gb_pos h0]
        have h64' : (dv_ s day v st).2.length ≤ 64 := by have := h64; rw [dv_, e] at this; exact this
        obtain ⟨m', g1, g2, g3, g4, g5⟩ := ih st m1 o5 o6 o7 (by omega) hF1 hc1 hL1 hr1 (by omega) h64'
        refine ⟨m', g1, g2, ?_, ?_, ?_⟩
        · rw [dv_, e]; exact g3
        · rw [dv_, e]; exact g4
        · rw [dv_, e]; exact g5
      · have e : wk_ s day v st = (sra_ s v (st.1 v) (cN s (59 + 48 * v)) st.1, st.2 ++ shs_ s v (spl_ s v day) (st.1 v - srp_ s v (st.1 v) (cN s (59 + 48 * v))) day (cN s (23 + 48 * v + spl_ s v day))) := if_neg h0
        have h64w : (wk_ s day v st).2.length ≤ 64 := by
          obtain ⟨t, ht⟩ := dv_pre s day v (wk_ s day v st)
          have h9 : (dv_ s day v (wk_ s day v st)).2.length ≤ 64 := h64
          rw [ht, List.length_append] at h9
          omega
        have h64w' := h64w
        rw [e] at h64w'
        obtain ⟨m2, o7', g1, g2, g3, g4, g5⟩ := srcs v (by omega) st.1 st.2 (by omega) (cN s (59 + 48 * v)) 0 m1 o7 (Nat.zero_add _) hF1 hc1 hL1 hr1 h64w'
        obtain ⟨m', k1, k2, k3, k4, k5⟩ := ih (wk_ s day v st) m2 _ _ o7' (by omega) g2 (fun u hu => by rw [e]; exact g3 u hu) (by rw [e]; exact g4) (by rw [e]; exact g5) (by omega) h64
        refine ⟨m', ?_, k2, k3, k4, k5⟩
        rw [gb_neg h0]
        rw [show st.1 v - srp_ s v (st.1 v) 0 = st.1 v from rfl] at g1
        exact g1.trans k1
  have zer : ∀ n i m1, i + n = 12 → Fr (RLc N) m m1 → gi_ m1 (N + 243) 33 = nI 0 → (∀ u, u < i → gi_ m1 (N + 256) u = nI 0) → ∃ m2, r328 sa sv (d + 4) 8 [some (.ref (N + 243)), some (.int (nI w)), some (.int (nI a)), some (.int (nI day)), some (.int (nI i)), none, none, none] [] m1 = r328 sa sv (d + 4) 39 [some (.ref (N + 243)), some (.int (nI w)), some (.int (nI a)), some (.int (nI day)), some (.int (nI w)), none, none, none] [] m2 ∧ Fr (RLc N) m m2 ∧ gi_ m2 (N + 243) 33 = nI 0 ∧ (∀ u, u < 12 → gi_ m2 (N + 256) u = nI (if u = w then a else 0)) := by
    intro n
    induction n with
    | zero =>
      intro i m1 hi hF1 h0 hz
      have hX1 := (hR.fr (hF1.mono fun _ _ h => RLc.x h)).1
      refine ⟨si_ m1 (N + 256) w (nI a), ?_, hF1.si (Or.inl rfl), by rw [gi_si, if_neg (by omega)]; exact h0, fun u hu => ?_⟩
      · rw [b328_8, gb_pos (by rw [nI_leE (by omega) (by omega)]; omega)]
        simp (disch := omega) only [gq_true, gb_true, gb_false, true_and, and_true, eq_self, not_false_eq_true, not_true_eq_false, true_or, or_true, false_or, or_false, false_and, and_false, c0_v, ci_v, cl_v, cf_v, pk_mul, nI_add, nI_clamp, nI_lt0, nI_0le, nI_eq0, nI_lt0r, nI_ltE, nI_leE, nI_eqE, nI_m1, in_t, ba0, ba1, Nat.one_ne_zero, Nat.reduceEqDiff, Nat.reduceLeDiff, Nat.add_eq_zero_iff, xk243 hX1, xr243_29 hX1, xk256 hX1]
      · rw [gi_si]
        by_cases e : u = w
        · rw [if_pos ⟨rfl, e⟩, if_pos e]
        · rw [if_neg (fun z => e z.2), if_neg e]; exact hz u (by omega)
    | succ n ih =>
      intro i m1 hi hF1 h0 hz
      have hX1 := (hR.fr (hF1.mono fun _ _ h => RLc.x h)).1
      have hF2 : Fr (RLc N) m (si_ m1 (N + 256) i (nI 0)) := hF1.si (Or.inl rfl)
      obtain ⟨m2, g1, g2⟩ := ih (i + 1) _ (by omega) hF2 (by rw [gi_si, if_neg (by omega)]; exact h0) (fun u hu => by
        rw [gi_si]
        by_cases e : u = i
        · rw [if_pos ⟨rfl, e⟩]
        · rw [if_neg (fun z => e z.2)]; exact hz u (by omega))
      refine ⟨m2, ?_, g2⟩
      rw [b328_8, gb_neg (by rw [nI_leE (by omega) (by omega)]; omega)]
      simp (disch := omega) only [gq_true, gb_true, gb_false, true_and, and_true, eq_self, not_false_eq_true, not_true_eq_false, true_or, or_true, false_or, or_false, false_and, and_false, c0_v, ci_v, cl_v, cf_v, pk_mul, nI_add, nI_clamp, nI_lt0, nI_0le, nI_eq0, nI_lt0r, nI_ltE, nI_leE, nI_eqE, nI_m1, in_t, ba0, ba1, Nat.one_ne_zero, Nat.reduceEqDiff, Nat.reduceLeDiff, Nat.add_eq_zero_iff, xk243 hX1, xr243_29 hX1, xk256 hX1]
      exact g1
  have hX := hR.1
  have hF0 : Fr (RLc N) m (si_ m (N + 243) 33 (nI 0)) := (Fr.refl _ _).si (Or.inr (Or.inr ⟨rfl, rfl⟩))
  obtain ⟨m1, g1, g2, g3, g4⟩ := zer 12 0 _ (Nat.zero_add _) hF0 (by rw [gi_si, if_pos ⟨rfl, rfl⟩]) (fun u hu => by omega)
  have hsum : sum_ (fun u => if u = w then a else 0) (w + 1) = a := sum_pt (w + 1) w a (Nat.lt_succ_self w)
  obtain ⟨m', k1, k2⟩ := step (w + 1) (fun u => if u = w then a else 0, []) m1 none none none hw g2 g4 (LN.nil _ _) g3 (by show 0 + sum_ (fun u => if u = w then a else 0) (w + 1) ≤ _; omega) (dv_64 hC hW day (w + 1) _ hw)
  refine ⟨m', ?_, k2⟩
  rw [c328, b328_0]
  simp (disch := omega) only [gq_true, gb_true, gb_false, true_and, and_true, eq_self, not_false_eq_true, not_true_eq_false, true_or, or_true, false_or, or_false, false_and, and_false, c0_v, ci_v, cl_v, cf_v, pk_mul, nI_add, nI_clamp, nI_lt0, nI_0le, nI_eq0, nI_lt0r, nI_ltE, nI_leE, nI_eqE, nI_m1, in_t, ba0, ba1, Nat.one_ne_zero, Nat.reduceEqDiff, Nat.reduceLeDiff, Nat.add_eq_zero_iff, xk243 hX]
  rw [dm_s] at k1
  exact g1.trans k1
end R62
