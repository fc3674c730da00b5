/-! the reference's rows are copied -/
/-- where a write does no harm to the shape -/
def XF (N a k : Nat) : Prop := N ≤ a ∧ (243 < a - N ∨ (a - N = 243 ∧ ¬ (k = 1 ∨ (15 ≤ k ∧ k ≤ 22) ∨ k = 25 ∨ k = 26 ∨ (28 ≤ k ∧ k ≤ 32) ∨ (34 ≤ k ∧ k ≤ 38) ∨ k = 43)) ∨ (27 ≤ a - N ∧ a - N < 243) ∨ (a - N = 0 ∧ (k = 1 ∨ k = 9 ∨ k = 11 ∨ k = 12 ∨ k = 13)) ∨ a - N = 1 ∨ (3 ≤ a - N ∧ a - N ≤ 6) ∨ a - N = 9 ∨ a - N = 12 ∨ (15 ≤ a - N ∧ a - N ≤ 20) ∨ a - N = 22 ∨ (24 ≤ a - N ∧ a - N ≤ 26) ∨ (a - N = 2 ∧ 4 ≤ k) ∨ (a - N = 7 ∧ 2 ≤ k) ∨ ((a - N = 8 ∨ a - N = 11 ∨ a - N = 21) ∧ 2 ≤ k) ∨ (a - N = 10 ∧ 1 ≤ k) ∨ (a - N = 13 ∧ 2 ≤ k) ∨ (a - N = 14 ∧ 7 ≤ k) ∨ (a - N = 23 ∧ 2 ≤ k))
theorem XS.frg {P : Nat → Nat → Prop} {m m' : am_M} {N : Nat} (h : XS m N) (hf : Fr P m m') (hp : ∀ a k, P a k → XF N a k) : XS m' N := by
  refine h.fr hf (fun x hx z => ?_) (fun x hx z => ?_)
  · have h2 := of_decide_eq_true (List.all_eq_true.mp (by decide : xr_.all (fun x => decide (¬ (243 < x.1 ∨ (x.1 = 243 ∧ ¬ (x.2.1 = 1 ∨ (15 ≤ x.2.1 ∧ x.2.1 ≤ 22) ∨ x.2.1 = 25 ∨ x.2.1 = 26 ∨ (28 ≤ x.2.1 ∧ x.2.1 ≤ 32) ∨ (34 ≤ x.2.1 ∧ x.2.1 ≤ 38) ∨ x.2.1 = 43)) ∨ (27 ≤ x.1 ∧ x.1 < 243) ∨ (x.1 = 0 ∧ (x.2.1 = 1 ∨ x.2.1 = 9 ∨ x.2.1 = 11 ∨ x.2.1 = 12 ∨ x.2.1 = 13)) ∨ x.1 = 1 ∨ (3 ≤ x.1 ∧ x.1 ≤ 6) ∨ x.1 = 9 ∨ x.1 = 12 ∨ (15 ≤ x.1 ∧ x.1 ≤ 20) ∨ x.1 = 22 ∨ (24 ≤ x.1 ∧ x.1 ≤ 26) ∨ (x.1 = 2 ∧ 4 ≤ x.2.1) ∨ (x.1 = 7 ∧ 2 ≤ x.2.1) ∨ ((x.1 = 8 ∨ x.1 = 11 ∨ x.1 = 21) ∧ 2 ≤ x.2.1) ∨ (x.1 = 10 ∧ 1 ≤ x.2.1) ∨ (x.1 = 13 ∧ 2 ≤ x.2.1) ∨ (x.1 = 14 ∧ 7 ≤ x.2.1) ∨ (x.1 = 23 ∧ 2 ≤ x.2.1)))) = true) x hx)
    have h3 := (hp _ _ z).2
    rw [Nat.add_sub_cancel_left] at h3
    exact h2 h3
  · have h2 := of_decide_eq_true (List.all_eq_true.mp (by decide : xw_.all (fun x => decide (x.1 = 8 ∨ x.1 = 11 ∨ x.1 = 21)) = true) x hx)
    have h3 := (hp _ _ z).2
    rw [Nat.add_sub_cancel_left] at h3
    omega
/-- a row is written from base on -/
theorem lp_ri {β : Type} (H : Nat → am_M → β) (A base n : Nat) (g : Nat → Int32) (m : am_M) (step : ∀ i m1, i < n → Fr (fun x _ => x = A) m m1 → (∀ k, gi_ m1 A k = if base ≤ k ∧ k < base + i then g (k - base) else gi_ m A k) → H i m1 = H (i + 1) (si_ m1 A (base + i) (g i))) : ∃ m', H 0 m = H n m' ∧ Fr (fun x _ => x = A) m m' ∧ ∀ k, gi_ m' A k = if base ≤ k ∧ k < base + n then g (k - base) else gi_ m A k := by
  obtain ⟨m', g1, g2, g3⟩ := lp_inv H (fun i m1 => Fr (fun x _ => x = A) m m1 ∧ ∀ k, gi_ m1 A k = if base ≤ k ∧ k < base + i then g (k - base) else gi_ m A k) n (fun i m1 hi ⟨f1, f2⟩ => ⟨_, step i m1 hi f1 f2, f1.si rfl, fun k => by
    rw [gi_si, f2 k]
    by_cases e : k = base + i
    · rw [if_pos ⟨rfl, e⟩, if_pos (by omega), show k - base = i by omega]
    · rw [if_neg (fun z => e z.2)]
      by_cases e2 : base ≤ k ∧ k < base + i
      · rw [if_pos e2, if_pos (by omega)]
      · rw [if_neg e2, if_neg (by omega)]⟩) m ⟨Fr.refl _ _, fun k => by rw [if_neg (by omega)]⟩
  exact ⟨m', g1, g2, g3⟩
theorem lp_rl {β : Type} (H : Nat → am_M → β) (A base n : Nat) (g : Nat → Int64) (m : am_M) (step : ∀ i m1, i < n → Fr (fun x _ => x = A) m m1 → (∀ k, gl_ m1 A k = if base ≤ k ∧ k < base + i then g (k - base) else gl_ m A k) → H i m1 = H (i + 1) (sl_ m1 A (base + i) (g i))) : ∃ m', H 0 m = H n m' ∧ Fr (fun x _ => x = A) m m' ∧ ∀ k, gl_ m' A k = if base ≤ k ∧ k < base + n then g (k - base) else gl_ m A k := by
  obtain ⟨m', g1, g2, g3⟩ := lp_inv H (fun i m1 => Fr (fun x _ => x = A) m m1 ∧ ∀ k, gl_ m1 A k = if base ≤ k ∧ k < base + i then g (k - base) else gl_ m A k) n (fun i m1 hi ⟨f1, f2⟩ => ⟨_, step i m1 hi f1 f2, f1.sl rfl, fun k => by
    rw [gl_sl, f2 k]
    by_cases e : k = base + i
    · rw [if_pos ⟨rfl, e⟩, if_pos (by omega), show k - base = i by omega]
    · rw [if_neg (fun z => e z.2)]
      by_cases e2 : base ≤ k ∧ k < base + i
      · rw [if_pos e2, if_pos (by omega)]
      · rw [if_neg e2, if_neg (by omega)]⟩) m ⟨Fr.refl _ _, fun k => by rw [if_neg (by omega)]⟩
  exact ⟨m', g1, g2, g3⟩
section R78
variable {sa sv d N : Nat} {m : am_M}
theorem XS.fr1 {A : Nat} {m m' : am_M} (h : XS m N) (hf : Fr (fun x _ => x = A) m m') (hA : N + 243 < A) : XS m' N := h.frg hf (fun a k z => by unfold XF; omega)
theorem y248 (hX : XS m N) : ∃ m', am_ca sa sv (d + 1) 248 [.ref (N + 243)] m = some (.inl none, m') ∧ Fr (RB N) m m' ∧ (∀ k, gi_ m' (N + 245) k = if k < 1023 then 0 else gi_ m (N + 245) k) ∧ (∀ k, gl_ m' (N + 249) k = if k < 484 then 0 else gl_ m (N + 249) k) := by
  obtain ⟨m1, g1, g2, g3⟩ := lp_ri (fun i m1 => r248 sa sv d 2 [some (.ref (N + 243)), some (.int (nI i))] [] m1) (N + 245) 0 1023 (fun _ => 0) m (fun i m1 hi f1 f2 => by
    have hX1 := hX.fr1 f1 (by omega)
    show r248 sa sv d 2 _ [] m1 = _
    rw [b248_2, gb_neg (by rw [nI_leE (by omega) (by omega)]; omega)]
    simp (disch := omega) only [gq_true, gb_true, gb_false, true_and, and_true, eq_self, not_false_eq_true, not_true_eq_false, true_or, or_true, false_or, or_false, false_and, and_false, c0_v, ci_v, cl_v, cf_v, pk_mul, nI_add, nI_clamp, nI_lt0, nI_0le, nI_eq0, nI_lt0r, nI_ltE, nI_leE, nI_eqE, nI_m1, in_t, ba0, ba1, Nat.one_ne_zero, Nat.reduceEqDiff, Nat.reduceLeDiff, Nat.add_eq_zero_iff, xk243 hX1, xr243_15 hX1, xk245 hX1, Nat.zero_add]
    rfl)
  have hX1 := hX.fr1 g2 (by omega)
  obtain ⟨m2, k1, k2, k3⟩ := lp_rl (fun i m1 => r248 sa sv d 24 [some (.ref (N + 243)), some (.int (nI i))] [] m1) (N + 249) 0 484 (fun _ => 0) m1 (fun i m2 hi f1 f2 => by
    have hX1 := hX1.fr1 f1 (by omega)
    show r248 sa sv d 24 _ [] m2 = _
    rw [b248_24, gb_neg (by rw [nI_leE (by omega) (by omega)]; omega)]
    simp (disch := omega) only [gq_true, gb_true, gb_false, true_and, and_true, eq_self, not_false_eq_true, not_true_eq_false, true_or, or_true, false_or, or_false, false_and, and_false, c0_v, ci_v, cl_v, cf_v, pk_mul, nI_add, nI_clamp, nI_lt0, nI_0le, nI_eq0, nI_lt0r, nI_ltE, nI_leE, nI_eqE, nI_m1, in_t, ba0, ba1, Nat.one_ne_zero, Nat.reduceEqDiff, Nat.reduceLeDiff, Nat.add_eq_zero_iff, xk243 hX1, xr243_19 hX1, xk249 hX1, Nat.zero_add])
  refine ⟨m2, ?_, (g2.mono fun a k z => Or.inr z).trans (k2.mono fun a k z => Or.inl z), fun k => ?_, fun k => ?_⟩
  · rw [c248, b248_0]
    refine g1.trans ?_
    show r248 sa sv d 2 _ [] m1 = _
    rw [b248_2, gb_pos (by rw [nI_leE (by omega) (by omega)]; omega)]
    refine k1.trans ?_
    show r248 sa sv d 24 _ [] m2 = _
    rw [b248_24, gb_pos (by rw [nI_leE (by omega) (by omega)]; omega)]
  · rw [k2.2.1 _ _ (by omega), g3 k]
    simp only [Nat.zero_le, true_and, Nat.zero_add]
  · rw [k3 k, g2.2.2.1 _ _ (by omega)]
    simp only [Nat.zero_le, true_and, Nat.zero_add]
theorem y249 (hX : XS m N) : ∃ m', am_ca sa sv (d + 1) 249 [.ref (N + 243)] m = some (.inl none, m') ∧ Fr (fun a _ => a = N + 248 ∨ a = N + 252) m m' ∧ (∀ k, k < 1023 → gi_ m' (N + 248) k = gi_ m (N + 245) k) ∧ (∀ k, k < 484 → gl_ m' (N + 252) k = gl_ m (N + 249) k) := by
  obtain ⟨m1, g1, g2, g3⟩ := lp_ri (fun i m1 => r249 sa sv d 2 [some (.ref (N + 243)), some (.int (nI i))] [] m1) (N + 248) 0 1023 (fun k => gi_ m (N + 245) k) m (fun i m1 hi f1 f2 => by
    have hX1 := hX.fr1 f1 (by omega)
    show r249 sa sv d 2 _ [] m1 = _
    rw [b249_2, gb_neg (by rw [nI_leE (by omega) (by omega)]; omega)]
    simp (disch := omega) only [gq_true, gb_true, gb_false, true_and, and_true, eq_self, not_false_eq_true, not_true_eq_false, true_or, or_true, false_or, or_false, false_and, and_false, c0_v, ci_v, cl_v, cf_v, pk_mul, nI_add, nI_clamp, nI_lt0, nI_0le, nI_eq0, nI_lt0r, nI_ltE, nI_leE, nI_eqE, nI_m1, in_t, ba0, ba1, Nat.one_ne_zero, Nat.reduceEqDiff, Nat.reduceLeDiff, Nat.add_eq_zero_iff, xk243 hX1, xr243_15 hX1, xr243_18 hX1, xk245 hX1, xk248 hX1, Nat.zero_add]
    rw [f1.2.1 _ _ (by omega)])
  have hX1 := hX.fr1 g2 (by omega)
  obtain ⟨m2, k1, k2, k3⟩ := lp_rl (fun i m1 => r249 sa sv d 29 [some (.ref (N + 243)), some (.int (nI i))] [] m1) (N + 252) 0 484 (fun k => gl_ m (N + 249) k) m1 (fun i m2 hi f1 f2 => by
    have hX2 := hX1.fr1 f1 (by omega)
    show r249 sa sv d 29 _ [] m2 = _
    rw [b249_29, gb_neg (by rw [nI_leE (by omega) (by omega)]; omega)]
    simp (disch := omega) only [gq_true, gb_true, gb_false, true_and, and_true, eq_self, not_false_eq_true, not_true_eq_false, true_or, or_true, false_or, or_false, false_and, and_false, c0_v, ci_v, cl_v, cf_v, pk_mul, nI_add, nI_clamp, nI_lt0, nI_0le, nI_eq0, nI_lt0r, nI_ltE, nI_leE, nI_eqE, nI_m1, in_t, ba0, ba1, Nat.one_ne_zero, Nat.reduceEqDiff, Nat.reduceLeDiff, Nat.add_eq_zero_iff, xk243 hX2, xr243_19 hX2, xr243_22 hX2, xk249 hX2, xk252 hX2, Nat.zero_add]
    rw [f1.2.2.1 _ _ (by omega), g2.2.2.1 _ _ (by omega)])
  refine ⟨m2, ?_, (g2.mono fun a k z => Or.inl z).trans (k2.mono fun a k z => Or.inr z), fun k hk => ?_, fun k hk => ?_⟩
  · rw [c249, b249_0]
    refine g1.trans ?_
    show r249 sa sv d 2 _ [] m1 = _
    rw [b249_2, gb_pos (by rw [nI_leE (by omega) (by omega)]; omega)]
    refine k1.trans ?_
    show r249 sa sv d 29 _ [] m2 = _
    rw [b249_29, gb_pos (by rw [nI_leE (by omega) (by omega)]; omega)]
  · rw [k2.2.1 _ _ (by omega), g3 k, if_pos (by omega)]; rfl
  · rw [k3 k, if_pos (by omega)]; rfl
theorem y250 (hX : XS m N) : ∃ m', am_ca sa sv (d + 1) 250 [.ref (N + 243)] m = some (.inl none, m') ∧ Fr (RB N) m m' ∧ (∀ k, gi_ m' (N + 245) k = if k < 1023 then gi_ m (N + 248) k else gi_ m (N + 245) k) ∧ (∀ k, gl_ m' (N + 249) k = if k < 484 then gl_ m (N + 252) k else gl_ m (N + 249) k) := by
  obtain ⟨m1, g1, g2, g3⟩ := lp_ri (fun i m1 => r250 sa sv d 2 [some (.ref (N + 243)), some (.int (nI i))] [] m1) (N + 245) 0 1023 (fun k => gi_ m (N + 248) k) m (fun i m1 hi f1 f2 => by
    have hX1 := hX.fr1 f1 (by omega)
    show r250 sa sv d 2 _ [] m1 = _
    rw [b250_2, gb_neg (by rw [nI_leE (by omega) (by omega)]; omega)]
    simp (disch := omega) only [gq_true, gb_true, gb_false, true_and, and_true, eq_self, not_false_eq_true, not_true_eq_false, true_or, or_true, false_or, or_false, false_and, and_false, c0_v, ci_v, cl_v, cf_v, pk_mul, nI_add, nI_clamp, nI_lt0, nI_0le, nI_eq0, nI_lt0r, nI_ltE, nI_leE, nI_eqE, nI_m1, in_t, ba0, ba1, Nat.one_ne_zero, Nat.reduceEqDiff, Nat.reduceLeDiff, Nat.add_eq_zero_iff, xk243 hX1, xr243_15 hX1, xr243_18 hX1, xk245 hX1, xk248 hX1, Nat.zero_add]
    rw [f1.2.1 _ _ (by omega)])
  have hX1 := hX.fr1 g2 (by omega)
  obtain ⟨m2, k1, k2, k3⟩ := lp_rl (fun i m1 => r250 sa sv d 29 [some (.ref (N + 243)), some (.int (nI i))] [] m1) (N + 249) 0 484 (fun k => gl_ m (N + 252) k) m1 (fun i m2 hi f1 f2 => by
    have hX2 := hX1.fr1 f1 (by omega)
    show r250 sa sv d 29 _ [] m2 = _
    rw [b250_29, gb_neg (by rw [nI_leE (by omega) (by omega)]; omega)]
    simp (disch := omega) only [gq_true, gb_true, gb_false, true_and, and_true, eq_self, not_false_eq_true, not_true_eq_false, true_or, or_true, false_or, or_false, false_and, and_false, c0_v, ci_v, cl_v, cf_v, pk_mul, nI_add, nI_clamp, nI_lt0, nI_0le, nI_eq0, nI_lt0r, nI_ltE, nI_leE, nI_eqE, nI_m1, in_t, ba0, ba1, Nat.one_ne_zero, Nat.reduceEqDiff, Nat.reduceLeDiff, Nat.add_eq_zero_iff, xk243 hX2, xr243_19 hX2, xr243_22 hX2, xk249 hX2, xk252 hX2, Nat.zero_add]
    rw [f1.2.2.1 _ _ (by omega), g2.2.2.1 _ _ (by omega)])
  refine ⟨m2, ?_, (g2.mono fun a k z => Or.inr z).trans (k2.mono fun a k z => Or.inl z), fun k => ?_, fun k => ?_⟩
  · rw [c250, b250_0]
    refine g1.trans ?_
    show r250 sa sv d 2 _ [] m1 = _
    rw [b250_2, gb_pos (by rw [nI_leE (by omega) (by omega)]; omega)]
    refine k1.trans ?_
    show r250 sa sv d 29 _ [] m2 = _
    rw [b250_29, gb_pos (by rw [nI_leE (by omega) (by omega)]; omega)]
  · rw [k2.2.1 _ _ (by omega), g3 k]
    simp only [Nat.zero_le, true_and, Nat.zero_add, Nat.sub_zero]
  · rw [k3 k, g2.2.2.1 _ _ (by omega)]
    simp only [Nat.zero_le, true_and, Nat.zero_add, Nat.sub_zero]
end R78
