/-! the class splits a text into tokens -/
/-- the first n bytes of the buffer -/
def BY (m : am_M) (N : Nat) (b : Nat → Nat) (n : Nat) : Prop := n ≤ 900 ∧ ∀ k, k < n → b k < 256 ∧ gi_ m (N + 1) k = sb (b k)
/-- j tokens are there -/
def TKS (m : am_M) (N : Nat) (b : Nat → Nat) (n j : Nat) : Prop := gi_ m (N + 2) 4 = nI j ∧ ∀ i, i < j → gi_ m (N + 4) i = nI (Kd b n i) ∧ gi_ m (N + 5) i = nI (St b n i) ∧ gl_ m (N + 6) i = Vl b n i
def PA (N a k : Nat) : Prop := a = N + 4 ∨ a = N + 5 ∨ a = N + 6 ∨ (a = N + 2 ∧ k = 4)
theorem PA.x {N a k : Nat} (h : PA N a k) : XF N a k := by
  rcases h with h | h | h | ⟨h, h2⟩
  · exact ⟨by omega, Or.inr (Or.inr (Or.inr (Or.inr (Or.inr (Or.inl (by omega))))))⟩
  · exact ⟨by omega, Or.inr (Or.inr (Or.inr (Or.inr (Or.inr (Or.inl (by omega))))))⟩
  · exact ⟨by omega, Or.inr (Or.inr (Or.inr (Or.inr (Or.inr (Or.inl (by omega))))))⟩
  · exact ⟨by omega, Or.inr (Or.inr (Or.inr (Or.inr (Or.inr (Or.inr (Or.inr (Or.inr (Or.inr (Or.inr (Or.inr (Or.inl (by omega))))))))))))⟩
section T80
variable {sa sv d N : Nat} {m : am_M} {b : Nat → Nat} {n : Nat}
theorem addT_fr (m : am_M) (N j k a : Nat) (v : Int64) : Fr (PA N) m (addT m N j k a v) :=
  ((((Fr.refl _ m).si (Or.inl rfl)).si (Or.inr (Or.inl rfl))).sl (Or.inr (Or.inr (Or.inl rfl)))).si (Or.inr (Or.inr (Or.inr ⟨rfl, rfl⟩)))
theorem TKS.add {j : Nat} (h : TKS m N b n j) {k a : Nat} {v : Int64} (hk : k = Kd b n j) (ha : a = St b n j) (hv : v = Vl b n j) : TKS (addT m N j k a v) N b n (j + 1) := by
  obtain ⟨h1, h2⟩ := h
  unfold addT
  refine ⟨by rw [gi_si, if_pos ⟨rfl, rfl⟩], fun i hi => ⟨?_, ?_, ?_⟩⟩
  · rw [gi_si, if_neg (by omega), gi_sl, gi_si, if_neg (by omega), gi_si]
    by_cases e : i = j
    · rw [if_pos ⟨rfl, e⟩, e, hk]
    · rw [if_neg (fun z => e z.2)]; exact (h2 i (by omega)).1
  · rw [gi_si, if_neg (by omega), gi_sl, gi_si]
    by_cases e : i = j
    · rw [if_pos ⟨rfl, e⟩, e, ha]
    · rw [if_neg (fun z => e z.2), gi_si, if_neg (by omega)]; exact (h2 i (by omega)).2.1
  · rw [gl_si, gl_sl]
    by_cases e : i = j
    · rw [if_pos ⟨rfl, e⟩, e, hv]
    · rw [if_neg (fun z => e z.2)]; exact (h2 i (by omega)).2.2
theorem x136 (hX : XS m N) (hQ : QT m N) (hB : BY m N b n) (a j : Nat) (ha : a < n) (hl : tL (b a) = true) (hj : j < 901) (h4 : gi_ m (N + 2) 4 = nI j) : am_ca sa sv (d + 2) 136 [.ref (N + 2), .ref (N + 1), .int (nI a), .int (nI n)] m = some (.inl (some (.int (nI (tE b n a)))), addT m N j (tK b n a) a (tV b n a)) := by
  obtain ⟨h9, hb⟩ := hB
  have hge := rnd_ge (f := tL) (b := b) (n := n) (p := a)
  have hle := rnd_le (f := tL) (b := b) (n := n) (p := a) (by omega)
  have step : ∀ k p, p + k = n → a ≤ p → r136 sa sv (d + 1) 6 [some (.ref (N + 2)), some (.ref (N + 1)), some (.int (nI a)), some (.int (nI n)), some (.long (Int64.ofNat (wvn b a (p - a)))), none, some (.int (nI p))] [] m = r136 sa sv (d + 1) 46 [some (.ref (N + 2)), some (.ref (N + 1)), some (.int (nI a)), some (.int (nI n)), some (.long (Int64.ofNat (wvn b a (rnd tL b n p - a)))), none, some (.int (nI (rnd tL b n p)))] [] m := by
    intro k
    induction k with
    | zero =>
      intro p hp hap
      rw [rnd_e (by omega), b136_6, gb_pos (by rw [nI_leE (by omega) (by omega)]; omega)]
    | succ k ih =>
      intro p hp hap
      obtain ⟨c1, c2⟩ := hb p (by omega)
      rw [b136_6, gb_neg (by rw [nI_leE (by omega) (by omega)]; omega)]
      simp (disch := omega) only [gq_true, gb_true, gb_false, true_and, and_true, eq_self, not_false_eq_true, not_true_eq_false, true_or, or_true, false_or, or_false, false_and, and_false, c0_v, ci_v, cl_v, cf_v, pk_mul, nI_add, nI_clamp, nI_lt0, nI_0le, nI_eq0, nI_lt0r, nI_ltE, nI_leE, nI_eqE, nI_m1, in_t, ba0, ba1, Nat.one_ne_zero, Nat.reduceEqDiff, Nat.reduceLeDiff, Nat.add_eq_zero_iff, xk1 hX, c2, x140 _ c1, tr_0, eq_false (show ¬ 900 ≤ p by omega), Nat.reduceEqDiff, Nat.reduceLeDiff]
      cases hlp : tL (b p) with
      | false => rw [gb_pos rfl, rnd_f hlp]
      | true =>
        rw [gb_neg (by decide), x133 _ _ hlp, cl_v, rnd_t hlp (by omega)]
        have := ih (p + 1) (by omega) (by omega)
        rw [show p + 1 - a = (p - a) + 1 by omega, wvn, show a + (p - a) = p by omega] at this
        exact this
  have h1 := step (n - a) a (by omega) (Nat.le_refl _)
  rw [Nat.sub_self] at h1
  rw [c136, b136_0]
  refine h1.trans ?_
  rw [b136_46]
  simp (disch := omega) only [gq_true, gb_true, gb_false, true_and, and_true, eq_self, not_false_eq_true, not_true_eq_false, true_or, or_true, false_or, or_false, false_and, and_false, c0_v, ci_v, cl_v, cf_v, pk_mul, nI_add, nI_clamp, nI_lt0, nI_0le, nI_eq0, nI_lt0r, nI_ltE, nI_leE, nI_eqE, nI_m1, in_t, ba0, ba1, Nat.one_ne_zero, Nat.reduceEqDiff, Nat.reduceLeDiff, Nat.add_eq_zero_iff, xk2 hX, pk_sub (show a ≤ rnd tL b n a from hge), x138 hX hQ, x139 hX j _ a _ hj h4]
  unfold tE tK tV
  rw [if_pos hl, if_pos hl, if_pos hl, wnd_r]
  by_cases e : rnd tL b n a - a ≤ 8
  · rw [gb_pos e, if_pos e]
  · rw [gb_neg e, if_neg e]
theorem x137 (hX : XS m N) (hB : BY m N b n) (a j : Nat) (ha : a < n) (hl0 : tL (b a) = false) (hl : tD (b a) = true) (hj : j < 901) (h4 : gi_ m (N + 2) 4 = nI j) : am_ca sa sv (d + 2) 137 [.ref (N + 2), .ref (N + 1), .int (nI a), .int (nI n)] m = some (.inl (some (.int (nI (tE b n a)))), addT m N j (tK b n a) a (tV b n a)) := by
  obtain ⟨h9, hb⟩ := hB
  have hge := rnd_ge (f := tD) (b := b) (n := n) (p := a)
  have hle := rnd_le (f := tD) (b := b) (n := n) (p := a) (by omega)
  have e48 : ∀ c, c < 58 → 48 ≤ c → (nI c - nI 48).toInt64 = Int64.ofNat (c - 48) := by decide +kernel
  have step : ∀ k p, p + k = n → a ≤ p → r137 sa sv (d + 1) 6 [some (.ref (N + 2)), some (.ref (N + 1)), some (.int (nI a)), some (.int (nI n)), some (.long (Int64.ofNat (nvn b a (p - a)))), none, some (.int (nI p))] [] m = r137 sa sv (d + 1) 52 [some (.ref (N + 2)), some (.ref (N + 1)), some (.int (nI a)), some (.int (nI n)), some (.long (Int64.ofNat (nvn b a (rnd tD b n p - a)))), none, some (.int (nI (rnd tD b n p)))] [] m := by
    intro k
    induction k with
    | zero =>
      intro p hp hap
      rw [rnd_e (by omega), b137_6, gb_pos (by rw [nI_leE (by omega) (by omega)]; omega)]
    | succ k ih =>
      intro p hp hap
      obtain ⟨c1, c2⟩ := hb p (by omega)
      rw [b137_6, gb_neg (by rw [nI_leE (by omega) (by omega)]; omega)]
      simp (disch := omega) only [gq_true, gb_true, gb_false, true_and, and_true, eq_self, not_false_eq_true, not_true_eq_false, true_or, or_true, false_or, or_false, false_and, and_false, c0_v, ci_v, cl_v, cf_v, pk_mul, nI_add, nI_clamp, nI_lt0, nI_0le, nI_eq0, nI_lt0r, nI_ltE, nI_leE, nI_eqE, nI_m1, in_t, ba0, ba1, Nat.one_ne_zero, Nat.reduceEqDiff, Nat.reduceLeDiff, Nat.add_eq_zero_iff, xk1 hX, c2, x141 _ c1, tr_0, eq_false (show ¬ 900 ≤ p by omega), Nat.reduceEqDiff, Nat.reduceLeDiff]
      cases hlp : tD (b p) with
      | false => rw [gb_pos rfl, rnd_f hlp]
      | true =>
        have h := of_decide_eq_true hlp
        rw [gb_neg (by decide), rnd_t hlp (by omega), sb_lo _ (by omega), e48 _ (by omega) (by omega)]
        have := ih (p + 1) (by omega) (by omega)
        rw [show p + 1 - a = (p - a) + 1 by omega, nvn, show a + (p - a) = p by omega, Int64.ofNat_add, Int64.ofNat_mul] at this
        exact this
  have h1 := step (n - a) a (by omega) (Nat.le_refl _)
  rw [Nat.sub_self] at h1
  rw [c137, b137_0]
  refine h1.trans ?_
  rw [b137_52]
  simp (disch := omega) only [gq_true, gb_true, gb_false, true_and, and_true, eq_self, not_false_eq_true, not_true_eq_false, true_or, or_true, false_or, or_false, false_and, and_false, c0_v, ci_v, cl_v, cf_v, pk_mul, nI_add, nI_clamp, nI_lt0, nI_0le, nI_eq0, nI_lt0r, nI_ltE, nI_leE, nI_eqE, nI_m1, in_t, ba0, ba1, Nat.one_ne_zero, Nat.reduceEqDiff, Nat.reduceLeDiff, Nat.add_eq_zero_iff, xk2 hX, pk_sub (show a ≤ rnd tD b n a from hge), x139 hX j _ a _ hj h4]
  unfold tE tK tV
  simp only [hl0, hl, Bool.false_eq_true, if_false, if_true]
  rw [← nnd_r]
  by_cases e : nnd b n a - a ≤ 6
  · rw [gb_pos e, if_pos e]
  · rw [gb_neg e, if_neg e]
theorem x135 (hX : XS m N) (hQ : QT m N) (hB : BY m N b n) (a j : Nat) (ha : a < n) (hj : j < 901) (h4 : gi_ m (N + 2) 4 = nI j) : am_ca sa sv (d + 3) 135 [.ref (N + 2), .ref (N + 1), .int (nI a), .int (nI n)] m = some (.inl (some (.int (nI (tE b n a)))), addT m N j (tK b n a) a (tV b n a)) := by
  obtain ⟨c1, c2⟩ := hB.2 a ha
  have h9 := hB.1
  rw [c135, b135_0]
  simp (disch := omega) only [gq_true, gb_true, gb_false, true_and, and_true, eq_self, not_false_eq_true, not_true_eq_false, true_or, or_true, false_or, or_false, false_and, and_false, c0_v, ci_v, cl_v, cf_v, pk_mul, nI_add, nI_clamp, nI_lt0, nI_0le, nI_eq0, nI_lt0r, nI_ltE, nI_leE, nI_eqE, nI_m1, in_t, ba0, ba1, Nat.one_ne_zero, Nat.reduceEqDiff, Nat.reduceLeDiff, Nat.add_eq_zero_iff, xk1 hX, c2, Nat.reduceEqDiff, Nat.reduceLeDiff]
  rw [gb_neg (by omega), b135_17]
  simp (disch := omega) only [gq_true, gb_true, gb_false, true_and, and_true, eq_self, not_false_eq_true, not_true_eq_false, true_or, or_true, false_or, or_false, false_and, and_false, c0_v, ci_v, cl_v, cf_v, pk_mul, nI_add, nI_clamp, nI_lt0, nI_0le, nI_eq0, nI_lt0r, nI_ltE, nI_leE, nI_eqE, nI_m1, in_t, ba0, ba1, Nat.one_ne_zero, Nat.reduceEqDiff, Nat.reduceLeDiff, Nat.add_eq_zero_iff, x140 _ c1, tr_0]
  cases hl : tL (b a) with
  | true =>
    rw [gb_neg (by decide)]
    simp (disch := omega) only [gq_true, gb_true, gb_false, true_and, and_true, eq_self, not_false_eq_true, not_true_eq_false, true_or, or_true, false_or, or_false, false_and, and_false, c0_v, ci_v, cl_v, cf_v, pk_mul, nI_add, nI_clamp, nI_lt0, nI_0le, nI_eq0, nI_lt0r, nI_ltE, nI_leE, nI_eqE, nI_m1, in_t, ba0, ba1, Nat.one_ne_zero, Nat.reduceEqDiff, Nat.reduceLeDiff, Nat.add_eq_zero_iff, xk2 hX, x136 hX hQ hB a j ha hl hj h4]
  | false =>
    rw [gb_pos rfl]
    simp (disch := omega) only [gq_true, gb_true, gb_false, true_and, and_true, eq_self, not_false_eq_true, not_true_eq_false, true_or, or_true, false_or, or_false, false_and, and_false, c0_v, ci_v, cl_v, cf_v, pk_mul, nI_add, nI_clamp, nI_lt0, nI_0le, nI_eq0, nI_lt0r, nI_ltE, nI_leE, nI_eqE, nI_m1, in_t, ba0, ba1, Nat.one_ne_zero, Nat.reduceEqDiff, Nat.reduceLeDiff, Nat.add_eq_zero_iff, x141 _ c1, tr_0]
    cases hd : tD (b a) with
    | true =>
      rw [gb_neg (by decide)]
      simp (disch := omega) only [gq_true, gb_true, gb_false, true_and, and_true, eq_self, not_false_eq_true, not_true_eq_false, true_or, or_true, false_or, or_false, false_and, and_false, c0_v, ci_v, cl_v, cf_v, pk_mul, nI_add, nI_clamp, nI_lt0, nI_0le, nI_eq0, nI_lt0r, nI_ltE, nI_leE, nI_eqE, nI_m1, in_t, ba0, ba1, Nat.one_ne_zero, Nat.reduceEqDiff, Nat.reduceLeDiff, Nat.add_eq_zero_iff, xk2 hX, x137 hX hB a j ha hl hd hj h4]
    | false =>
      rw [gb_pos rfl]
      simp (disch := omega) only [gq_true, gb_true, gb_false, true_and, and_true, eq_self, not_false_eq_true, not_true_eq_false, true_or, or_true, false_or, or_false, false_and, and_false, c0_v, ci_v, cl_v, cf_v, pk_mul, nI_add, nI_clamp, nI_lt0, nI_0le, nI_eq0, nI_lt0r, nI_ltE, nI_leE, nI_eqE, nI_m1, in_t, ba0, ba1, Nat.one_ne_zero, Nat.reduceEqDiff, Nat.reduceLeDiff, Nat.add_eq_zero_iff, xk2 hX, sb_eq c1 (show 10 ≤ 59 by decide) (by decide), sb_eq c1 (show 10 ≤ 40 by decide) (by decide), sb_eq c1 (show 10 ≤ 41 by decide) (by decide), x139 hX j _ a _ hj h4]
      unfold tE tK tV
      rw [hl, hd]
      simp only [Bool.false_eq_true, if_false]
      by_cases e1 : b a = 59
      · rw [gb_pos e1, if_pos e1]
      · rw [gb_neg e1, if_neg e1]
        by_cases e2 : b a = 40
        · rw [gb_pos e2, if_pos e2]
        · rw [gb_neg e2, if_neg e2]
          by_cases e3 : b a = 41
          · rw [gb_pos e3, if_pos e3]
          · rw [gb_neg e3, if_neg e3]
end T80
