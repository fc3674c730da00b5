/-! the class books an income: the whole -/
section R76
variable {sa sv d N o B : Nat} {m : am_M} {s : Nat → Int32} {q : Nat → Int64}
theorem x88_107 (hX : XS m N) (hO : OS m o) (h1 : N + 27 ≤ o) (h2 : o + 27 ≤ N + 243) (np : Nat) (hn : np ≤ 10) (hw : gi_ m (o + 1) 0 = nI np) (R : Nat → Nat) (hf : ∀ u, u < 10 → gi_ m (N + 20) u = nI (R u)) : ∃ m', r88 sa sv (d + 3) 107 [some (.ref o), some (.ref (N + 14)), some (.int (nI 0))] [] m = r88 sa sv (d + 3) 139 [some (.ref o), some (.ref (N + 14)), some (.int (nI 0))] [] m' ∧ Fr (fun a _ => BL o a) m m' ∧ (∀ p, gl_ m' (o + 20) p = gl_ m (o + 20) p + (nI (if p < np then R p else 0)).toInt64) ∧ (∀ p c, c < 4 → gl_ m' (o + 21) (p * 4 + c) = gl_ m (o + 21) (p * 4 + c) + (nI (if p < np ∧ c = 2 then R p else 0)).toInt64) ∧ (∀ p c, c < 3 → gl_ m' (o + 22) (p * 3 + c) = gl_ m (o + 22) (p * 3 + c) + (nI (if p < np ∧ c = 2 then R p else 0)).toInt64) ∧ gl_ m' (o + 23) = gl_ m (o + 23) := by
  obtain ⟨m', g1, g2, g3⟩ := lp_inv (fun i m1 => r88 sa sv (d + 3) 107 [some (.ref o), some (.ref (N + 14)), some (.int (nI i))] [] m1) (fun i m1 => Fr (fun a _ => BL o a) m m1 ∧ (∀ p, gl_ m1 (o + 20) p = gl_ m (o + 20) p + (nI (if p < i then R p else 0)).toInt64) ∧ (∀ p c, c < 4 → gl_ m1 (o + 21) (p * 4 + c) = gl_ m (o + 21) (p * 4 + c) + (nI (if p < i ∧ c = 2 then R p else 0)).toInt64) ∧ (∀ p c, c < 3 → gl_ m1 (o + 22) (p * 3 + c) = gl_ m (o + 22) (p * 3 + c) + (nI (if p < i ∧ c = 2 then R p else 0)).toInt64) ∧ gl_ m1 (o + 23) = gl_ m (o + 23)) np (fun i m1 hi ⟨f1, f2, f3, f4, f5⟩ => by
    have hX1 := hX.frO f1 h1 h2 (fun a k z => by unfold BL at z; omega)
    have hO1 := hO.frd f1 (fun a k z => by unfold BL at z; omega)
    have e1 : gi_ m1 (o + 1) 0 = nI np := (f1.2.1 _ _ (by unfold BL; omega)).trans hw
    have e2 : gi_ m1 (N + 20) i = nI (R i) := (f1.2.1 _ _ (by unfold BL; omega)).trans (hf i (by omega))
    refine ⟨ad_ (ae_ m1 o i 2 (nI (R i)).toInt64) (o + 20) i (nI (R i)).toInt64, ?_, ?_, fun p => ?_, fun p c hc => ?_, fun p c hc => ?_, ?_⟩
    · show r88 sa sv (d + 3) 107 _ [] m1 = _
      rw [b88_107]
      simp (disch := omega) only [gq_true, gb_true, gb_false, true_and, and_true, eq_self, not_false_eq_true, not_true_eq_false, true_or, or_true, false_or, or_false, false_and, and_false, c0_v, ci_v, cl_v, cf_v, pk_mul, nI_add, nI_clamp, nI_lt0, nI_0le, nI_eq0, nI_lt0r, nI_ltE, nI_leE, nI_eqE, nI_m1, in_t, ba0, ba1, Nat.one_ne_zero, Nat.reduceEqDiff, Nat.reduceLeDiff, Nat.add_eq_zero_iff, ok0 hO1, or0_1 hO1, ok1 hO1, e1, eq_false (show ¬ np ≤ i by omega), or0_5 hO1, xk14 hX1, x43 hX1 i (by omega), e2, ok19 hO1, x54 hO1 i (nI (R i)) (by omega)]
    · unfold ae_ BL
      unfold BL at f1
      exact ((f1.ad (by omega)).ad (by omega)).ad (by omega)
    · simp (disch := omega) only [ae_, gl_ad, eq_self, true_and, if_neg]
      rw [f2]
      by_cases e : p = i
      · rw [if_pos e, if_neg (by omega), nL_0, if_pos (by omega), e]
      · rw [if_neg e]
        by_cases e3 : p < i
        · rw [if_pos e3, if_pos (by omega)]
        · rw [if_neg e3, if_neg (by omega)]
    · simp (disch := omega) only [ae_, gl_ad, eq_self, true_and, if_neg]
      rw [f3 p c hc]
      by_cases e : p = i ∧ c = 2
      · rw [if_pos (by omega), if_neg (by omega), nL_0, if_pos (by omega), e.1]
      · rw [if_neg (by omega)]
        by_cases e3 : p < i ∧ c = 2
        · rw [if_pos e3, if_pos (by omega)]
        · rw [if_neg e3, if_neg (by omega)]
    · simp (disch := omega) only [ae_, gl_ad, eq_self, true_and, if_neg]
      rw [f4 p c hc]
      by_cases e : p = i ∧ c = 2
      · rw [if_pos (by omega), if_neg (by omega), nL_0, if_pos (by omega), e.1]
      · rw [if_neg (by omega)]
        by_cases e3 : p < i ∧ c = 2
        · rw [if_pos e3, if_pos (by omega)]
        · rw [if_neg e3, if_neg (by omega)]
    · funext k
      simp (disch := omega) only [ae_, gl_ad, eq_self, true_and, if_neg]
      rw [f5]) m ⟨Fr.refl _ _, fun p => by rw [if_neg (by omega), nL_0], fun p c _ => by rw [if_neg (by omega), nL_0], fun p c _ => by rw [if_neg (by omega), nL_0], rfl⟩
  refine ⟨m', g1.trans ?_, g2, g3⟩
  have hO1 := hO.frd g2 (fun a k z => by unfold BL at z; omega)
  have e1 : gi_ m' (o + 1) 0 = nI np := (g2.2.1 _ _ (by unfold BL; omega)).trans hw
  show r88 sa sv (d + 3) 107 _ [] m' = _
  rw [b88_107]
  simp (disch := omega) only [gq_true, gb_true, gb_false, true_and, and_true, eq_self, not_false_eq_true, not_true_eq_false, true_or, or_true, false_or, or_false, false_and, and_false, c0_v, ci_v, cl_v, cf_v, pk_mul, nI_add, nI_clamp, nI_lt0, nI_0le, nI_eq0, nI_lt0r, nI_ltE, nI_leE, nI_eqE, nI_m1, in_t, ba0, ba1, Nat.one_ne_zero, Nat.reduceEqDiff, Nat.reduceLeDiff, Nat.add_eq_zero_iff, ok0 hO1, or0_1 hO1, ok1 hO1, e1, Nat.le_refl]
theorem x88_139 (hX : XS m N) (hO : OS m o) (h1 : N + 27 ≤ o) (h2 : o + 27 ≤ N + 243) (nd : Nat) (hn : nd ≤ 12) (hw : gi_ m (o + 15) 2 = nI nd) : ∃ m', r88 sa sv (d + 3) 139 [some (.ref o), some (.ref (N + 14)), some (.int (nI 0))] [] m = some (.inl none, m') ∧ Fr (fun a _ => a = o + 16) m m' ∧ ∀ a c, a < 12 → c < 6 → gi_ m' (o + 16) (a * 6 + c) = if a < nd ∧ c = 5 then gi_ m (N + 19) a else gi_ m (o + 16) (a * 6 + c) := by
  obtain ⟨m', g1, g2, g3⟩ := lp_inv (fun i m1 => r88 sa sv (d + 3) 139 [some (.ref o), some (.ref (N + 14)), some (.int (nI i))] [] m1) (fun i m1 => Fr (fun a _ => a = o + 16) m m1 ∧ ∀ a c, a < 12 → c < 6 → gi_ m1 (o + 16) (a * 6 + c) = if a < i ∧ c = 5 then gi_ m (N + 19) a else gi_ m (o + 16) (a * 6 + c)) nd (fun i m1 hi ⟨f1, f2⟩ => by
    have hX1 := hX.frO f1 h1 h2 (fun a k z => by omega)
    have hO1 := hO.frd f1 (fun a k z => by omega)
    have e1 : gi_ m1 (o + 15) 2 = nI nd := (f1.2.1 _ _ (by omega)).trans hw
    have e2 : gi_ m1 (N + 19) i = gi_ m (N + 19) i := f1.2.1 _ _ (by omega)
    have t := x128 (sa := sa) (sv := sv) (d := d + 2) (ot15 hO1) (by decide) i 5 (gi_ m (N + 19) i) (by omega)
    rw [show o + 15 + 1 = o + 16 from rfl] at t
    refine ⟨si_ m1 (o + 16) (i * 6 + 5) (gi_ m (N + 19) i), ?_, f1.si rfl, fun a c ha hc => ?_⟩
    · show r88 sa sv (d + 3) 139 _ [] m1 = _
      rw [b88_139]
      simp (disch := omega) only [gq_true, gb_true, gb_false, true_and, and_true, eq_self, not_false_eq_true, not_true_eq_false, true_or, or_true, false_or, or_false, false_and, and_false, c0_v, ci_v, cl_v, cf_v, pk_mul, nI_add, nI_clamp, nI_lt0, nI_0le, nI_eq0, nI_lt0r, nI_ltE, nI_leE, nI_eqE, nI_m1, in_t, ba0, ba1, Nat.one_ne_zero, Nat.reduceEqDiff, Nat.reduceLeDiff, Nat.add_eq_zero_iff, ok0 hO1, or0_3 hO1, ok15 hO1, e1, eq_false (show ¬ nd ≤ i by omega), xk14 hX1, x42 hX1 i (by omega), e2, t]
    · rw [gi_si, f2 a c ha hc]
      by_cases e : a = i ∧ c = 5
      · rw [if_pos (by omega), if_pos (by omega), e.1]
      · rw [if_neg (by omega)]
        by_cases e3 : a < i ∧ c = 5
        · rw [if_pos e3, if_pos (by omega)]
        · rw [if_neg e3, if_neg (by omega)]) m ⟨Fr.refl _ _, fun a c _ _ => by rw [if_neg (by omega)]⟩
  refine ⟨m', g1.trans ?_, g2, g3⟩
  have hO1 := hO.frd g2 (fun a k z => by omega)
  have e1 : gi_ m' (o + 15) 2 = nI nd := (g2.2.1 _ _ (by omega)).trans hw
  show r88 sa sv (d + 3) 139 _ [] m' = _
  rw [b88_139]
  simp (disch := omega) only [gq_true, gb_true, gb_false, true_and, and_true, eq_self, not_false_eq_true, not_true_eq_false, true_or, or_true, false_or, or_false, false_and, and_false, c0_v, ci_v, cl_v, cf_v, pk_mul, nI_add, nI_clamp, nI_lt0, nI_0le, nI_eq0, nI_lt0r, nI_ltE, nI_leE, nI_eqE, nI_m1, in_t, ba0, ba1, Nat.one_ne_zero, Nat.reduceEqDiff, Nat.reduceLeDiff, Nat.add_eq_zero_iff, ok0 hO1, or0_3 hO1, ok15 hO1, e1, Nat.le_refl]
def OA (o a : Nat) : Prop := o ≤ a ∧ a < o + 27
theorem bS_o (l : List Ln) {k : Nat} (h6 : ¬ k = 6) (h1 : k < 690 ∨ (762 ≤ k ∧ k < 767) ∨ (k < 762 ∧ ¬ (k - 690) % 6 = 5)) : bS_ s l k = s k := by
  unfold bS_
  rw [if_neg h6, if_neg (by omega), if_neg (by omega)]
theorem bS_d (l : List Ln) {a : Nat} (ha : a < 12) : bS_ s l (690 + 6 * a + 5) = nI ((wh_ s l l.length).1 a) := by
  unfold bS_
  rw [if_neg (by omega), if_neg (by omega), if_pos (by omega), show (690 + 6 * a + 5 - 690) / 6 = a by omega]
theorem bS_l (l : List Ln) {j : Nat} (hj : j < 4 * l.length) : bS_ s l (767 + j) = lnv_ s l j := by
  unfold bS_
  rw [if_neg (by omega), if_pos (by omega), show 767 + j - 767 = j by omega]
theorem bN_o (l : List Ln) (f : Nat → Nat) {k : Nat} (h : 212 ≤ k) : bN_ s l f k = 0 := by
  unfold bN_ bD2 bD3
  rw [if_neg (by omega), if_neg (by omega), if_neg (by omega), if_neg (by omega), if_neg (by omega), if_neg (by omega), if_neg (by omega), if_neg (by omega)]
theorem bN_w (l : List Ln) (f : Nat → Nat) {w : Nat} (h : w < 12) : bN_ s l f (200 + w) = f w := by
  unfold bN_ bD2 bD3
  rw [if_pos (by omega), if_neg (by omega), if_neg (by omega), if_neg (by omega), if_neg (by omega), if_neg (by omega), if_neg (by omega), if_neg (by omega), show 200 + w - 200 = w by omega]
  rfl
theorem bN_e (l : List Ln) (f : Nat → Nat) {p w : Nat} (hp : p < 10) (h : w < 12) : bN_ s l f (80 + 12 * p + w) = ew_ l p w l.length := by
  unfold bN_ bD2 bD3
  rw [if_neg (by omega), if_neg (by omega), if_neg (by omega), if_neg (by omega), if_neg (by omega), if_neg (by omega), if_neg (by omega), if_pos (by omega), show (80 + 12 * p + w - 80) / 12 = p by omega, show (80 + 12 * p + w - 80) % 12 = w by omega]
  omega
theorem bN_b0 (l : List Ln) (f : Nat → Nat) {p : Nat} (hp : p < 10) : bN_ s l f p = og_ s l p l.length + (wh_ s l l.length).2 p := by
  unfold bN_ bD2 bD3
  rw [if_neg (by omega), if_pos (by omega), if_pos (by omega), if_pos (by omega)]
  show 0 + (og_ s l p l.length + (wh_ s l l.length).2 p) + 0 = _
  omega
theorem bD2_t (G R : Nat → Nat) {p c : Nat} (hp : p < 10) (hc : c < 4) : bD2 G R 10 (10 + 4 * p + c) = if c = 2 then R p else 0 := by
  unfold bD2
  rw [if_neg (by omega), if_pos (by omega), show (10 + 4 * p + c - 10) / 4 = p by omega, show (10 + 4 * p + c - 10) % 4 = c by omega]
  by_cases c2 : c = 2
  · rw [if_pos ⟨c2, hp⟩, if_pos c2]
  · rw [if_neg (fun z => c2 z.1), if_neg c2]
theorem bD2_p (G R : Nat → Nat) {p c : Nat} (hp : p < 10) (hc : c < 3) : bD2 G R 10 (50 + 3 * p + c) = if c = 2 then R p else 0 := by
  unfold bD2
  rw [if_neg (by omega), if_neg (by omega), if_pos (by omega), show (50 + 3 * p + c - 50) / 3 = p by omega, show (50 + 3 * p + c - 50) % 3 = c by omega]
  by_cases c2 : c = 2
  · rw [if_pos ⟨c2, hp⟩, if_pos c2]
  · rw [if_neg (fun z => c2 z.1), if_neg c2]
theorem bD3_t (l : List Ln) {p c i : Nat} (hp : p < 10) (hc : c < 4) : bD3 s l i (10 + 4 * p + c) = bA2 s l p c i := by
  unfold bD3 bA2
  rw [if_neg (by omega), if_pos (by omega), show (10 + 4 * p + c - 10) / 4 = p by omega, show (10 + 4 * p + c - 10) % 4 = c by omega]
theorem bD3_p (l : List Ln) {p c i : Nat} (hp : p < 10) (hc : c < 3) : bD3 s l i (50 + 3 * p + c) = bA2 s l p c i := by
  unfold bD3 bA2
  rw [if_neg (by omega), if_neg (by omega), if_pos (by omega), show (50 + 3 * p + c - 50) / 3 = p by omega, show (50 + 3 * p + c - 50) % 3 = c by omega]
theorem bN_t (l : List Ln) (f : Nat → Nat) {p c : Nat} (hp : p < 10) (hc : c < 4) : bN_ s l f (10 + 4 * p + c) = bA2 s l p c l.length + (if c = 2 then (wh_ s l l.length).2 p else 0) := by
  unfold bN_
  rw [if_neg (by omega), bD2_t _ _ hp hc, bD3_t l hp hc]
  omega
theorem bN_p (l : List Ln) (f : Nat → Nat) {p c : Nat} (hp : p < 10) (hc : c < 3) : bN_ s l f (50 + 3 * p + c) = bA2 s l p c l.length + (if c = 2 then (wh_ s l l.length).2 p else 0) := by
  unfold bN_
  rw [if_neg (by omega), bD2_p _ _ hp hc, bD3_p l hp hc]
  omega
end R76
