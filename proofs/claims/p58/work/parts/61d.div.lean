/-! the class prepares a division -/
def DP (N : Nat) (a k : Nat) : Prop := a = N + 15 ∨ a = N + 16 ∨ a = N + 17 ∨ (a = N + 14 ∧ 7 ≤ k)
theorem XS.frP {m m' : am_M} {N : Nat} (h : XS m N) (hf : Fr (DP N) m m') : XS m' N := by
  refine h.fr hf (fun x hx => ?_) (fun x hx => ?_)
  · have h2 := of_decide_eq_true (List.all_eq_true.mp (by decide : xr_.all (fun x => decide (¬ (x.1 = 15 ∨ x.1 = 16 ∨ x.1 = 17 ∨ (x.1 = 14 ∧ 7 ≤ x.2.1)))) = true) x hx)
    rintro (z | z | z | ⟨z, z2⟩)
    · exact h2 (Or.inl (by omega))
    · exact h2 (Or.inr (Or.inl (by omega)))
    · exact h2 (Or.inr (Or.inr (Or.inl (by omega))))
    · exact h2 (Or.inr (Or.inr (Or.inr ⟨by omega, z2⟩)))
  · rintro (z | z | z | ⟨z, z2⟩)
    · have h2 := of_decide_eq_true (List.all_eq_true.mp (by decide : xw_.all (fun x => decide (¬ (x.1 = 15 ∨ x.1 = 16 ∨ x.1 = 17))) = true) x hx)
      exact h2 (Or.inl (by omega))
    · have h2 := of_decide_eq_true (List.all_eq_true.mp (by decide : xw_.all (fun x => decide (¬ (x.1 = 15 ∨ x.1 = 16 ∨ x.1 = 17))) = true) x hx)
      exact h2 (Or.inr (Or.inl (by omega)))
    · have h2 := of_decide_eq_true (List.all_eq_true.mp (by decide : xw_.all (fun x => decide (¬ (x.1 = 15 ∨ x.1 = 16 ∨ x.1 = 17))) = true) x hx)
      exact h2 (Or.inr (Or.inr (by omega)))
    · omega
theorem msk_s (P : Nat → Bool) (n : Nat) : nI (msk_ P n) + nI ((bif P n then 1 else 0) * 2 ^ n) = nI (msk_ P (n + 1)) := by
  rw [nI_add, msk_]
  congr 1
  have h := msk_lt P n
  cases P n
  · rw [cond_false, Nat.zero_mul, Nat.or_zero]; rfl
  · rw [cond_true, Nat.one_mul]
    have e2 := Nat.two_pow_add_eq_or_of_lt h 1
    rw [Nat.mul_one] at e2
    rw [Nat.or_comm, ← e2, Nat.add_comm]
section R61
variable {sa sv d N o : Nat} {m : am_M} {s : Nat → Int32} {q : Nat → Int64}
theorem x32 (hX : XS m N) (hO : OS m o) (hV : OV m o s q) (hNo : N + 27 ≤ o) (hC : WC s) (hW : WW s) (hA : WA s) (hD : WD s) (day : Nat) (hd : day < 2 ^ 31) : ∃ m', am_ca sa sv (d + 4) 32 [.ref (N + 14), .ref o, .int (nI day)] m = some (.inl none, m') ∧ Fr (DP N) m m' ∧ PD m' N o s q day := by
  obtain ⟨e0, b0⟩ := (wc_np hC).c (by decide)
  obtain ⟨e1, b1⟩ := (wc_nw hC).c (by decide)
  obtain ⟨e2, b2⟩ := (wc_na hC).c (by decide)
  obtain ⟨e3, b3⟩ := (wc_nd hC).c (by decide)
  have np : ∀ a k, o ≤ a → a < o + 27 → ¬ DP N a k := by rintro a k ha _ (z | z | z | ⟨z, -⟩) <;> omega
  have rf : ∀ m1 m2, Fr (fun a _ => a = N + 15 ∨ a = N + 16 ∨ a = N + 17) m1 m2 → ∀ k, gr_ m2 (N + 14) k = gr_ m1 (N + 14) k := fun m1 m2 h k => h.2.2.2.1 _ _ (by omega)
  -- the last loop: the advances
  have third : ∀ n i m1 (o4 : Option Value), i + n = cN s 3 → Fr (DP N) m m1 → gr_ m1 (N + 14) 9 = o + 15 → (∀ p, p < 10 → gi_ m1 (N + 17) p = nI (msk_ (fun a => decide (cN s (690 + 6 * a + 1) = p)) i)) → ∃ m', r32 sa sv (d + 3) 135 [some (.ref (N + 14)), some (.ref o), some (.int (nI day)), some (.int (nI i)), o4] [] m1 = some (.inl none, m') ∧ Fr (fun a _ => a = N + 15 ∨ a = N + 16 ∨ a = N + 17) m1 m' ∧ (∀ k, gi_ m' (N + 15) k = gi_ m1 (N + 15) k) ∧ (∀ k, gi_ m' (N + 16) k = gi_ m1 (N + 16) k) ∧ (∀ p, p < 10 → gi_ m' (N + 17) p = nI (msk_ (fun a => decide (cN s (690 + 6 * a + 1) = p)) (cN s 3))) := by
    intro n
    induction n with
    | zero =>
      intro i m1 o4 hi hF h9 hp
      have hX1 := hX.frP hF
      have hO1 := hO.fr' hF np
      have hV1 := hV.fr hF np
      have e : i = cN s 3 := by omega
      refine ⟨m1, ?_, Fr.refl _ _, fun _ => rfl, fun _ => rfl, by rw [← e]; exact hp⟩
      have h9' : ¬ gr_ m1 (N + 14) 9 = 0 := by rw [h9]; omega
      rw [b32_135]
      simp (disch := omega) only [gq_true, gb_true, gb_false, true_and, and_true, eq_self, not_false_eq_true, not_true_eq_false, true_or, or_true, false_or, or_false, false_and, and_false, c0_v, ci_v, cl_v, cf_v, pk_mul, nI_add, nI_clamp, nI_lt0, nI_0le, nI_eq0, nI_lt0r, nI_ltE, nI_leE, nI_eqE, nI_m1, in_t, ba0, ba1, Nat.one_ne_zero, Nat.reduceEqDiff, Nat.reduceLeDiff, Nat.add_eq_zero_iff, xk14 hX1, eq_false h9']
      simp (disch := omega) only [gq_true, gb_true, gb_false, true_and, and_true, eq_self, not_false_eq_true, not_true_eq_false, true_or, or_true, false_or, or_false, false_and, and_false, c0_v, ci_v, cl_v, cf_v, pk_mul, nI_add, nI_clamp, nI_lt0, nI_0le, nI_eq0, nI_lt0r, nI_ltE, nI_leE, nI_eqE, nI_m1, in_t, ba0, ba1, Nat.one_ne_zero, Nat.reduceEqDiff, Nat.reduceLeDiff, Nat.add_eq_zero_iff, h9, ok15 hO1, ov_nd hV1]
      rw [e3, gb_pos (by rw [nI_leE (by omega) (by omega)]; omega)]
    | succ n ih =>
      intro i m1 o4 hi hF h9 hp
      have hX1 := hX.frP hF
      have hO1 := hO.fr' hF np
      have hV1 := hV.fr hF np
      obtain ⟨e4, b4⟩ := (wd_t hD i (by omega)).c (by omega)
      have h9' : ¬ gr_ m1 (N + 14) 9 = 0 := by rw [h9]; omega
      have hF2 : Fr (fun a _ => a = N + 15 ∨ a = N + 16 ∨ a = N + 17) m1 (si_ m1 (N + 17) (cN s (690 + 6 * i + 1)) (gi_ m1 (N + 17) (cN s (690 + 6 * i + 1)) + nI (2 ^ i))) := (Fr.refl _ _).si (Or.inr (Or.inr rfl))
      obtain ⟨m', g1, g2, g3, g4, g5⟩ := ih (i + 1) _ o4 (by omega) (hF.trans (hF2.mono fun a k h => by rcases h with h | h | h; exact Or.inl h; exact Or.inr (Or.inl h); exact Or.inr (Or.inr (Or.inl h)))) (by rw [rf _ _ hF2]; exact h9) (fun p hp2 => by
        rw [gi_si, ← msk_s]
        by_cases e : p = cN s (690 + 6 * i + 1)
        · rw [if_pos ⟨rfl, e⟩, ← e, hp p hp2, decide_eq_true (rfl : p = p), cond_true, Nat.one_mul]
        · rw [if_neg (fun z => e z.2), hp p hp2, decide_eq_false (fun z => e z.symm), cond_false, Nat.zero_mul]
          exact (Int32.add_zero _).symm)
      refine ⟨m', ?_, hF2.trans g2, fun k => (g3 k).trans (by rw [gi_si, if_neg (by omega)]), fun k => (g4 k).trans (by rw [gi_si, if_neg (by omega)]), g5⟩
      rw [b32_135]
      simp (disch := omega) only [gq_true, gb_true, gb_false, true_and, and_true, eq_self, not_false_eq_true, not_true_eq_false, true_or, or_true, false_or, or_false, false_and, and_false, c0_v, ci_v, cl_v, cf_v, pk_mul, nI_add, nI_clamp, nI_lt0, nI_0le, nI_eq0, nI_lt0r, nI_ltE, nI_leE, nI_eqE, nI_m1, in_t, ba0, ba1, Nat.one_ne_zero, Nat.reduceEqDiff, Nat.reduceLeDiff, Nat.add_eq_zero_iff, xk14 hX1, eq_false h9']
      simp (disch := omega) only [gq_true, gb_true, gb_false, true_and, and_true, eq_self, not_false_eq_true, not_true_eq_false, true_or, or_true, false_or, or_false, false_and, and_false, c0_v, ci_v, cl_v, cf_v, pk_mul, nI_add, nI_clamp, nI_lt0, nI_0le, nI_eq0, nI_lt0r, nI_ltE, nI_leE, nI_eqE, nI_m1, in_t, ba0, ba1, Nat.one_ne_zero, Nat.reduceEqDiff, Nat.reduceLeDiff, Nat.add_eq_zero_iff, h9, ok15 hO1, ov_nd hV1]
      rw [e3]
      simp (disch := omega) only [gq_true, gb_true, gb_false, true_and, and_true, eq_self, not_false_eq_true, not_true_eq_false, true_or, or_true, false_or, or_false, false_and, and_false, c0_v, ci_v, cl_v, cf_v, pk_mul, nI_add, nI_clamp, nI_lt0, nI_0le, nI_eq0, nI_lt0r, nI_ltE, nI_leE, nI_eqE, nI_m1, in_t, ba0, ba1, Nat.one_ne_zero, Nat.reduceEqDiff, Nat.reduceLeDiff, Nat.add_eq_zero_iff, xk14 hX1, xr14_2 hX1, xad hO1 hV1 i 1 (by omega) (by omega), e4, nI_sh1 i (by omega), x34 (N + 17) 10 (cN s (690 + 6 * i + 1)) (nI (2 ^ i)) (xk17 hX1) (by omega) (by omega)]
      rw [gb_neg (by omega)]
      exact g1
  have mn : ∀ m1 m2, Fr (fun a _ => a = N + 15 ∨ a = N + 16 ∨ a = N + 17) m1 m2 → Fr (DP N) m1 m2 := fun m1 m2 h => h.mono fun a k h => by rcases h with h | h | h; exact Or.inl h; exact Or.inr (Or.inl h); exact Or.inr (Or.inr (Or.inl h))
  -- the loop before: the assignments
  have second : ∀ n i m1 (o4 : Option Value), i + n = cN s 2 → Fr (DP N) m m1 → gr_ m1 (N + 14) 8 = o + 13 → gr_ m1 (N + 14) 9 = o + 15 → (∀ u p, u < 12 → p < 10 → gi_ m1 (N + 16) (u * 10 + p) = nI (msk_ (asm_ s u p day) i)) → ∃ m', r32 sa sv (d + 3) 63 [some (.ref (N + 14)), some (.ref o), some (.int (nI day)), some (.int (nI i)), o4] [] m1 = some (.inl none, m') ∧ Fr (fun a _ => a = N + 15 ∨ a = N + 16 ∨ a = N + 17) m1 m' ∧ (∀ k, gi_ m' (N + 15) k = gi_ m1 (N + 15) k) ∧ (∀ u p, u < 12 → p < 10 → gi_ m' (N + 16) (u * 10 + p) = nI (msk_ (asm_ s u p day) (cN s 2))) ∧ (∀ p, p < 10 → gi_ m' (N + 17) p = nI (msk_ (fun a => decide (cN s (690 + 6 * a + 1) = p)) (cN s 3))) := by
    intro n
    induction n with
    | zero =>
      intro i m1 o4 hi hF h8 h9 hp
      have hX1 := hX.frP hF
      have hO1 := hO.fr' hF np
      have hV1 := hV.fr hF np
      have e : i = cN s 2 := by omega
      have h8' : ¬ gr_ m1 (N + 14) 8 = 0 := by rw [h8]; omega
      obtain ⟨m2, k1, k2, k3⟩ := x368 (sa := sa) (sv := sv) (d := d + 2) (m := m1) (N + 17) 10 (nI 0) (xk17 hX1) (by omega)
      have hF2 : Fr (fun a _ => a = N + 15 ∨ a = N + 16 ∨ a = N + 17) m1 m2 := k2.mono fun a k h => Or.inr (Or.inr h)
      obtain ⟨m', g1, g2, g3, g4, g5⟩ := third (cN s 3) 0 m2 o4 (Nat.zero_add _) (hF.trans (mn _ _ hF2)) (by rw [rf _ _ hF2]; exact h9) (fun p hp2 => k3 p hp2)
      refine ⟨m', ?_, hF2.trans g2, fun k => (g3 k).trans (k2.2.1 _ _ (by omega)), fun u p hu hp2 => by rw [g4, k2.2.1 _ _ (by omega), hp u p hu hp2, e], g5⟩
      rw [b32_63]
      simp (disch := omega) only [gq_true, gb_true, gb_false, true_and, and_true, eq_self, not_false_eq_true, not_true_eq_false, true_or, or_true, false_or, or_false, false_and, and_false, c0_v, ci_v, cl_v, cf_v, pk_mul, nI_add, nI_clamp, nI_lt0, nI_0le, nI_eq0, nI_lt0r, nI_ltE, nI_leE, nI_eqE, nI_m1, in_t, ba0, ba1, Nat.one_ne_zero, Nat.reduceEqDiff, Nat.reduceLeDiff, Nat.add_eq_zero_iff, xk14 hX1, eq_false h8']
      simp (disch := omega) only [gq_true, gb_true, gb_false, true_and, and_true, eq_self, not_false_eq_true, not_true_eq_false, true_or, or_true, false_or, or_false, false_and, and_false, c0_v, ci_v, cl_v, cf_v, pk_mul, nI_add, nI_clamp, nI_lt0, nI_0le, nI_eq0, nI_lt0r, nI_ltE, nI_leE, nI_eqE, nI_m1, in_t, ba0, ba1, Nat.one_ne_zero, Nat.reduceEqDiff, Nat.reduceLeDiff, Nat.add_eq_zero_iff, h8, ok13 hO1, ov_na hV1]
      rw [e2, gb_pos (by rw [nI_leE (by omega) (by omega)]; omega)]
      simp (disch := omega) only [gq_true, gb_true, gb_false, true_and, and_true, eq_self, not_false_eq_true, not_true_eq_false, true_or, or_true, false_or, or_false, false_and, and_false, c0_v, ci_v, cl_v, cf_v, pk_mul, nI_add, nI_clamp, nI_lt0, nI_0le, nI_eq0, nI_lt0r, nI_ltE, nI_leE, nI_eqE, nI_m1, in_t, ba0, ba1, Nat.one_ne_zero, Nat.reduceEqDiff, Nat.reduceLeDiff, Nat.add_eq_zero_iff, xk14 hX1, xr14_2 hX1]
      rw [k1]
      exact g1
    | succ n ih =>
      intro i m1 o4 hi hF h8 h9 hp
      have hX1 := hX.frP hF
      have hO1 := hO.fr' hF np
      have hV1 := hV.fr hF np
      obtain ⟨e4, b4⟩ := (wa_p hA i (by omega)).c (by omega)
      obtain ⟨e5, b5⟩ := (wa_w hA i (by omega)).c (by omega)
      have h8' : ¬ gr_ m1 (N + 14) 8 = 0 := by rw [h8]; omega
      rw [b32_63]
      simp (disch := omega) only [gq_true, gb_true, gb_false, true_and, and_true, eq_self, not_false_eq_true, not_true_eq_false, true_or, or_true, false_or, or_false, false_and, and_false, c0_v, ci_v, cl_v, cf_v, pk_mul, nI_add, nI_clamp, nI_lt0, nI_0le, nI_eq0, nI_lt0r, nI_ltE, nI_leE, nI_eqE, nI_m1, in_t, ba0, ba1, Nat.one_ne_zero, Nat.reduceEqDiff, Nat.reduceLeDiff, Nat.add_eq_zero_iff, xk14 hX1, eq_false h8']
      simp (disch := omega) only [gq_true, gb_true, gb_false, true_and, and_true, eq_self, not_false_eq_true, not_true_eq_false, true_or, or_true, false_or, or_false, false_and, and_false, c0_v, ci_v, cl_v, cf_v, pk_mul, nI_add, nI_clamp, nI_lt0, nI_0le, nI_eq0, nI_lt0r, nI_ltE, nI_leE, nI_eqE, nI_m1, in_t, ba0, ba1, Nat.one_ne_zero, Nat.reduceEqDiff, Nat.reduceLeDiff, Nat.add_eq_zero_iff, h8, ok13 hO1, ov_na hV1]
      rw [e2]
      simp (disch := omega) only [gq_true, gb_true, gb_false, true_and, and_true, eq_self, not_false_eq_true, not_true_eq_false, true_or, or_true, false_or, or_false, false_and, and_false, c0_v, ci_v, cl_v, cf_v, pk_mul, nI_add, nI_clamp, nI_lt0, nI_0le, nI_eq0, nI_lt0r, nI_ltE, nI_leE, nI_eqE, nI_m1, in_t, ba0, ba1, Nat.one_ne_zero, Nat.reduceEqDiff, Nat.reduceLeDiff, Nat.add_eq_zero_iff, ok0 hO1, x73 hO1 hV1 hC hA i day (by omega) hd, tr_0]
      rw [gb_neg (by omega)]
      cases hf : isf_ s i day with
      | false =>
        rw [gb_pos rfl]
        obtain ⟨m', g1, g2⟩ := ih (i + 1) m1 o4 (by omega) hF h8 h9 (fun u p hu hp2 => by
          rw [hp u p hu hp2, ← msk_s]
          have : asm_ s u p day i = false := by unfold asm_; rw [hf, Bool.and_false]
          rw [this, cond_false, Nat.zero_mul]
          exact (Int32.add_zero _).symm)
        exact ⟨m', g1, g2⟩
      | true =>
        rw [gb_neg (by decide)]
        have hF2 : Fr (fun a _ => a = N + 15 ∨ a = N + 16 ∨ a = N + 17) m1 (si_ m1 (N + 16) (cN s (594 + 6 * i + 1) * 10 + cN s (594 + 6 * i + 0)) (gi_ m1 (N + 16) (cN s (594 + 6 * i + 1) * 10 + cN s (594 + 6 * i + 0)) + nI (2 ^ i))) := (Fr.refl _ _).si (Or.inr (Or.inl rfl))
        obtain ⟨m', g1, g2, g3, g4, g5⟩ := ih (i + 1) _ (some (.int (nI (cN s (594 + 6 * i + 1) * 10 + cN s (594 + 6 * i + 0))))) (by omega) (hF.trans (mn _ _ hF2)) (by rw [rf _ _ hF2]; exact h8) (by rw [rf _ _ hF2]; exact h9) (fun u p hu hp2 => by
          rw [gi_si, ← msk_s]
          by_cases e : cN s (594 + 6 * i + 0) = p ∧ cN s (594 + 6 * i + 1) = u
          · have ha : asm_ s u p day i = true := by unfold asm_; rw [hf, decide_eq_true e]; rfl
            rw [if_pos ⟨rfl, by rw [e.1, e.2]⟩, e.1, e.2, hp u p hu hp2, ha, cond_true, Nat.one_mul]
          · have ha : asm_ s u p day i = false := by unfold asm_; rw [decide_eq_false e]; rfl
            rw [if_neg (by rintro ⟨-, z⟩; exact e ⟨by omega, by omega⟩), hp u p hu hp2, ha, cond_false, Nat.zero_mul]
            exact (Int32.add_zero _).symm)
        refine ⟨m', ?_, hF2.trans g2, fun k => (g3 k).trans (by rw [gi_si, if_neg (by omega)]), g4, g5⟩
        simp (disch := omega) only [gq_true, gb_true, gb_false, true_and, and_true, eq_self, not_false_eq_true, not_true_eq_false, true_or, or_true, false_or, or_false, false_and, and_false, c0_v, ci_v, cl_v, cf_v, pk_mul, nI_add, nI_clamp, nI_lt0, nI_0le, nI_eq0, nI_lt0r, nI_ltE, nI_leE, nI_eqE, nI_m1, in_t, ba0, ba1, Nat.one_ne_zero, Nat.reduceEqDiff, Nat.reduceLeDiff, Nat.add_eq_zero_iff, xk14 hX1, eq_false h8']
        simp (disch := omega) only [gq_true, gb_true, gb_false, true_and, and_true, eq_self, not_false_eq_true, not_true_eq_false, true_or, or_true, false_or, or_false, false_and, and_false, c0_v, ci_v, cl_v, cf_v, pk_mul, nI_add, nI_clamp, nI_lt0, nI_0le, nI_eq0, nI_lt0r, nI_ltE, nI_leE, nI_eqE, nI_m1, in_t, ba0, ba1, Nat.one_ne_zero, Nat.reduceEqDiff, Nat.reduceLeDiff, Nat.add_eq_zero_iff, h8, ok13 hO1, xas hO1 hV1 i 1 (by omega) (by omega), e5, xk14 hX1, eq_false h8']
        simp (disch := omega) only [gq_true, gb_true, gb_false, true_and, and_true, eq_self, not_false_eq_true, not_true_eq_false, true_or, or_true, false_or, or_false, false_and, and_false, c0_v, ci_v, cl_v, cf_v, pk_mul, nI_add, nI_clamp, nI_lt0, nI_0le, nI_eq0, nI_lt0r, nI_ltE, nI_leE, nI_eqE, nI_m1, in_t, ba0, ba1, Nat.one_ne_zero, Nat.reduceEqDiff, Nat.reduceLeDiff, Nat.add_eq_zero_iff, h8, ok13 hO1, xas hO1 hV1 i 0 (by omega) (by omega), e4, nI_sh1 i (by omega), xk14 hX1, xr14_1 hX1, x34 (N + 16) 120 (cN s (594 + 6 * i + 1) * 10 + cN s (594 + 6 * i + 0)) (nI (2 ^ i)) (xk16 hX1) (by omega) (by omega)]
        exact g1
  -- the first loop: the splits
  have first : ∀ n i m1 (o4 : Option Value), i + n = 12 → Fr (DP N) m m1 → gr_ m1 (N + 14) 7 = o + 1 → gr_ m1 (N + 14) 8 = o + 13 → gr_ m1 (N + 14) 9 = o + 15 → (∀ u, u < i → gi_ m1 (N + 15) u = nI (if u < cN s 1 then spl_ s u day else 0)) → ∃ m', r32 sa sv (d + 3) 26 [some (.ref (N + 14)), some (.ref o), some (.int (nI day)), some (.int (nI i)), o4] [] m1 = some (.inl none, m') ∧ Fr (fun a _ => a = N + 15 ∨ a = N + 16 ∨ a = N + 17) m1 m' ∧ (∀ u, u < 12 → gi_ m' (N + 15) u = nI (if u < cN s 1 then spl_ s u day else 0)) ∧ (∀ u p, u < 12 → p < 10 → gi_ m' (N + 16) (u * 10 + p) = nI (msk_ (asm_ s u p day) (cN s 2))) ∧ (∀ p, p < 10 → gi_ m' (N + 17) p = nI (msk_ (fun a => decide (cN s (690 + 6 * a + 1) = p)) (cN s 3))) := by
    intro n
    induction n with
    | zero =>
      intro i m1 o4 hi hF h7 h8 h9 hp
      have hX1 := hX.frP hF
      have e : i = 12 := by omega
      obtain ⟨m2, k1, k2, k3⟩ := x368 (sa := sa) (sv := sv) (d := d + 2) (m := m1) (N + 16) 120 (nI 0) (xk16 hX1) (by omega)
      have hF2 : Fr (fun a _ => a = N + 15 ∨ a = N + 16 ∨ a = N + 17) m1 m2 := k2.mono fun a k h => Or.inr (Or.inl h)
      obtain ⟨m', g1, g2, g3, g4, g5⟩ := second (cN s 2) 0 m2 o4 (Nat.zero_add _) (hF.trans (mn _ _ hF2)) (by rw [rf _ _ hF2]; exact h8) (by rw [rf _ _ hF2]; exact h9) (fun u p hu hp2 => k3 _ (by omega))
      refine ⟨m', ?_, hF2.trans g2, fun u hu => by rw [g3, k2.2.1 _ _ (by omega), hp u (by omega)], g4, g5⟩
      rw [b32_26, gb_pos (by rw [nI_leE (by omega) (by omega)]; omega)]
      simp (disch := omega) only [gq_true, gb_true, gb_false, true_and, and_true, eq_self, not_false_eq_true, not_true_eq_false, true_or, or_true, false_or, or_false, false_and, and_false, c0_v, ci_v, cl_v, cf_v, pk_mul, nI_add, nI_clamp, nI_lt0, nI_0le, nI_eq0, nI_lt0r, nI_ltE, nI_leE, nI_eqE, nI_m1, in_t, ba0, ba1, Nat.one_ne_zero, Nat.reduceEqDiff, Nat.reduceLeDiff, Nat.add_eq_zero_iff, xk14 hX1, xr14_1 hX1]
      rw [k1]
      exact g1
    | succ n ih =>
      intro i m1 o4 hi hF h7 h8 h9 hp
      have hX1 := hX.frP hF
      have hO1 := hO.fr' hF np
      have hV1 := hV.fr hF np
      have h7' : ¬ gr_ m1 (N + 14) 7 = 0 := by rw [h7]; omega
      have hF2 : Fr (fun a _ => a = N + 15 ∨ a = N + 16 ∨ a = N + 17) m1 (si_ m1 (N + 15) i (nI (if i < cN s 1 then spl_ s i day else 0))) := (Fr.refl _ _).si (Or.inl rfl)
      obtain ⟨m', g1, g2, g3, g4, g5⟩ := ih (i + 1) _ o4 (by omega) (hF.trans (mn _ _ hF2)) (by rw [rf _ _ hF2]; exact h7) (by rw [rf _ _ hF2]; exact h8) (by rw [rf _ _ hF2]; exact h9) (fun u hu => by
        rw [gi_si]
        by_cases e : u = i
        · rw [if_pos ⟨rfl, e⟩, e]
        · rw [if_neg (fun z => e z.2)]; exact hp u (by omega))
      refine ⟨m', ?_, hF2.trans g2, g3, g4, g5⟩
      rw [b32_26, gb_neg (by rw [nI_leE (by omega) (by omega)]; omega)]
      simp (disch := omega) only [gq_true, gb_true, gb_false, true_and, and_true, eq_self, not_false_eq_true, not_true_eq_false, true_or, or_true, false_or, or_false, false_and, and_false, c0_v, ci_v, cl_v, cf_v, pk_mul, nI_add, nI_clamp, nI_lt0, nI_0le, nI_eq0, nI_lt0r, nI_ltE, nI_leE, nI_eqE, nI_m1, in_t, ba0, ba1, Nat.one_ne_zero, Nat.reduceEqDiff, Nat.reduceLeDiff, Nat.add_eq_zero_iff, xk14 hX1, xr14_0 hX1, eq_false h7']
      simp (disch := omega) only [gq_true, gb_true, gb_false, true_and, and_true, eq_self, not_false_eq_true, not_true_eq_false, true_or, or_true, false_or, or_false, false_and, and_false, c0_v, ci_v, cl_v, cf_v, pk_mul, nI_add, nI_clamp, nI_lt0, nI_0le, nI_eq0, nI_lt0r, nI_ltE, nI_leE, nI_eqE, nI_m1, in_t, ba0, ba1, Nat.one_ne_zero, Nat.reduceEqDiff, Nat.reduceLeDiff, Nat.add_eq_zero_iff, h7, ok1 hO1, x25 hO1 hV1 hC hW i day (by omega) hd, xk15 hX1]
      exact g1
  have hF0 : Fr (DP N) m (sr_ (sr_ (sr_ m (N + 14) 7 (o + 1)) (N + 14) 8 (o + 13)) (N + 14) 9 (o + 15)) := (((Fr.refl _ m).sr (Or.inr (Or.inr (Or.inr ⟨rfl, by decide⟩)))).sr (Or.inr (Or.inr (Or.inr ⟨rfl, by decide⟩)))).sr (Or.inr (Or.inr (Or.inr ⟨rfl, by decide⟩)))
  obtain ⟨m', g1, g2, g3, g4, g5⟩ := first 12 0 _ none (Nat.zero_add _) hF0 (by simp only [gr_sr]; rfl) (by simp only [gr_sr]; rfl) (by simp only [gr_sr]; rfl) (fun u hu => by omega)
  have hF' := hF0.trans (mn _ _ g2)
  refine ⟨m', ?_, hF', hX.frP hF', hO.fr' hF' np, hV.fr hF' np, hNo, ?_, ?_, ?_, g3, g4, g5⟩
  · have ho : ¬ o = N + 14 := by omega
    rw [c32, b32_0]
    simp (disch := omega) only [gq_true, gb_true, gb_false, true_and, and_true, eq_self, not_false_eq_true, not_true_eq_false, true_or, or_true, false_or, or_false, false_and, and_false, c0_v, ci_v, cl_v, cf_v, pk_mul, nI_add, nI_clamp, nI_lt0, nI_0le, nI_eq0, nI_lt0r, nI_ltE, nI_leE, nI_eqE, nI_m1, in_t, ba0, ba1, Nat.one_ne_zero, Nat.reduceEqDiff, Nat.reduceLeDiff, Nat.add_eq_zero_iff, xk14 hX, ok0 hO, or0_1 hO, or0_2 hO, or0_3 hO, gr_sr, ho, if_false]
    exact g1
  · rw [rf _ _ g2]; simp only [gr_sr]; rfl
  · rw [rf _ _ g2]; simp only [gr_sr]; rfl
  · rw [rf _ _ g2]; simp only [gr_sr]; rfl
end R61
