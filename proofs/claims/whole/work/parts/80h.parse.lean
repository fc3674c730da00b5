/-! the reference's steps in a text: names, signs, words, numbers -/
section D80
variable {sa sv d N : Nat} {m : am_M} {b : Nat → Nat} {n : Nat} {σ : Er ⊕ Nat}
theorem y242 (h : RQ m N b n σ) : am_ca sa sv (d + 2) 242 [.ref (N + 243)] m = some (.inl (some (.int (tr_ (isK b n 2 σ)))), m) := by
  have h241 := y241 (sa := sa) (sv := sv) (d := d) h.1
  obtain ⟨hX, hG, h⟩ := h
  rw [c242, b242_0]
  cases σ with
  | inl e =>
    obtain ⟨h1, h2, h3, -⟩ := h
    simp (disch := omega) only [gq_true, gb_true, gb_false, true_and, and_true, eq_self, not_false_eq_true, not_true_eq_false, true_or, or_true, false_or, or_false, false_and, and_false, c0_v, ci_v, cl_v, cf_v, pk_mul, nI_add, nI_clamp, nI_lt0, nI_0le, nI_eq0, nI_lt0r, nI_ltE, nI_leE, nI_eqE, nI_m1, in_t, ba0, ba1, Nat.one_ne_zero, Nat.reduceEqDiff, Nat.reduceLeDiff, Nat.add_eq_zero_iff, xk243 hX, h1]
    rw [gb_neg (by omega)]; rfl
  | inr i =>
    obtain ⟨h8, h9, h10, hP⟩ := h
    have hs := srt_lt (Kd b n i)
    simp (disch := omega) only [gq_true, gb_true, gb_false, true_and, and_true, eq_self, not_false_eq_true, not_true_eq_false, true_or, or_true, false_or, or_false, false_and, and_false, c0_v, ci_v, cl_v, cf_v, pk_mul, nI_add, nI_clamp, nI_lt0, nI_0le, nI_eq0, nI_lt0r, nI_ltE, nI_leE, nI_eqE, nI_m1, in_t, ba0, ba1, Nat.one_ne_zero, Nat.reduceEqDiff, Nat.reduceLeDiff, Nat.add_eq_zero_iff, xk243 hX, h8, hP.2.2.1, h241]
    rw [show isK b n 2 (.inr i) = decide (Kd b n i = 2) from rfl]
    by_cases e : srt (Kd b n i) = 1
    · rw [gb_pos e, hP.2.2.2.2.2.2.2 e, ← Kd_w (srt_1.mp e), tr_0]
      by_cases e2 : Kd b n i = 2
      · rw [gb_pos (decide_eq_false (fun z => z e2)), decide_eq_true e2]; rfl
      · rw [gb_neg (by rw [decide_eq_true e2]; decide), decide_eq_false e2]; rfl
    · rw [gb_neg e, decide_eq_false (fun z => e (srt_1.mpr (Or.inl z)))]; rfl
theorem gs_r (i : Nat) : gd_s (.inr i) = true := rfl
theorem gs_l (e : Er) : gd_s (.inl e) = false := rfl
theorem y238 (h : RQ m N b n σ) (k c : Nat) (hk : (k = 4 ∧ c = 59) ∨ (k = 5 ∧ c = 40) ∨ (k = 6 ∧ c = 41)) : ∃ m', am_ca sa sv (d + 3) 238 [.ref (N + 243), .int (nI c)] m = some (.inl none, m') ∧ Fr (RH N) m m' ∧ RQ m' N b n (pst (eb σ (sTake b n k))) := by
  have e1 := y235 (sa := sa) (sv := sv) (d := d + 1) h
  have e2 := y237 (sa := sa) (sv := sv) (d := d + 1) h k c hk
  cases σ with
  | inl e =>
    refine ⟨m, ?_, Fr.refl _ _, h⟩
    rw [gs_l, tr_f] at e1
    rw [c238, b238_0]
    simp (disch := omega) only [gq_true, gb_true, gb_false, true_and, and_true, eq_self, not_false_eq_true, not_true_eq_false, true_or, or_true, false_or, or_false, false_and, and_false, c0_v, ci_v, cl_v, cf_v, pk_mul, nI_add, nI_clamp, nI_lt0, nI_0le, nI_eq0, nI_lt0r, nI_ltE, nI_leE, nI_eqE, nI_m1, in_t, ba0, ba1, Nat.one_ne_zero, Nat.reduceEqDiff, Nat.reduceLeDiff, Nat.add_eq_zero_iff, xk243 h.1, e1]
  | inr i =>
    rw [gs_r, tr_t] at e1
    rw [show isK b n k (.inr i) = decide (Kd b n i = k) from rfl] at e2
    show ∃ m', _ ∧ _ ∧ RQ m' N b n (pst (sTake b n k i))
    unfold sTake
    by_cases e : Kd b n i = k
    · rw [decide_eq_true e, tr_t] at e2
      rw [if_pos e]
      obtain ⟨m', g1, g2, g3⟩ := y233n (sa := sa) (sv := sv) (d := d) h
      refine ⟨m', ?_, g2, g3⟩
      rw [c238, b238_0]
      simp (disch := omega) only [gq_true, gb_true, gb_false, true_and, and_true, eq_self, not_false_eq_true, not_true_eq_false, true_or, or_true, false_or, or_false, false_and, and_false, c0_v, ci_v, cl_v, cf_v, pk_mul, nI_add, nI_clamp, nI_lt0, nI_0le, nI_eq0, nI_lt0r, nI_ltE, nI_leE, nI_eqE, nI_m1, in_t, ba0, ba1, Nat.one_ne_zero, Nat.reduceEqDiff, Nat.reduceLeDiff, Nat.add_eq_zero_iff, xk243 h.1, e1, e2, g1]
    · rw [decide_eq_false e, tr_f] at e2
      rw [if_neg e]
      obtain ⟨m', g1, g2, g3⟩ := y234 (sa := sa) (sv := sv) (d := d + 1) h 1 (by decide) (by decide) (fun _ => rfl)
      have e3 := y235 (sa := sa) (sv := sv) (d := d + 1) g3
      rw [gs_l, tr_f] at e3
      refine ⟨m', ?_, g2, g3⟩
      rw [c238, b238_0]
      simp (disch := omega) only [gq_true, gb_true, gb_false, true_and, and_true, eq_self, not_false_eq_true, not_true_eq_false, true_or, or_true, false_or, or_false, false_and, and_false, c0_v, ci_v, cl_v, cf_v, pk_mul, nI_add, nI_clamp, nI_lt0, nI_0le, nI_eq0, nI_lt0r, nI_ltE, nI_leE, nI_eqE, nI_m1, in_t, ba0, ba1, Nat.one_ne_zero, Nat.reduceEqDiff, Nat.reduceLeDiff, Nat.add_eq_zero_iff, xk243 h.1, e1, e2, g1, xk243 g3.1, e3]
theorem y239 (h : RQ m N b n σ) (k : Nat) (hk : k < 21) : ∃ m', am_ca sa sv (d + 3) 239 [.ref (N + 243), .long (qi_ k)] m = some (.inl none, m') ∧ Fr (RH N) m m' ∧ RQ m' N b n (pst (eb σ (sTake b n (7 + k)))) := by
  have e1 := y235 (sa := sa) (sv := sv) (d := d + 1) h
  have e2 := y236 (sa := sa) (sv := sv) (d := d + 1) h k hk
  cases σ with
  | inl e =>
    refine ⟨m, ?_, Fr.refl _ _, h⟩
    rw [gs_l, tr_f] at e1
    rw [c239, b239_0]
    simp (disch := omega) only [gq_true, gb_true, gb_false, true_and, and_true, eq_self, not_false_eq_true, not_true_eq_false, true_or, or_true, false_or, or_false, false_and, and_false, c0_v, ci_v, cl_v, cf_v, pk_mul, nI_add, nI_clamp, nI_lt0, nI_0le, nI_eq0, nI_lt0r, nI_ltE, nI_leE, nI_eqE, nI_m1, in_t, ba0, ba1, Nat.one_ne_zero, Nat.reduceEqDiff, Nat.reduceLeDiff, Nat.add_eq_zero_iff, xk243 h.1, e1]
  | inr i =>
    rw [gs_r, tr_t] at e1
    rw [show isK b n (7 + k) (.inr i) = decide (Kd b n i = 7 + k) from rfl] at e2
    show ∃ m', _ ∧ _ ∧ RQ m' N b n (pst (sTake b n (7 + k) i))
    unfold sTake
    by_cases e : Kd b n i = 7 + k
    · rw [decide_eq_true e, tr_t] at e2
      rw [if_pos e]
      obtain ⟨m', g1, g2, g3⟩ := y233n (sa := sa) (sv := sv) (d := d) h
      refine ⟨m', ?_, g2, g3⟩
      rw [c239, b239_0]
      simp (disch := omega) only [gq_true, gb_true, gb_false, true_and, and_true, eq_self, not_false_eq_true, not_true_eq_false, true_or, or_true, false_or, or_false, false_and, and_false, c0_v, ci_v, cl_v, cf_v, pk_mul, nI_add, nI_clamp, nI_lt0, nI_0le, nI_eq0, nI_lt0r, nI_ltE, nI_leE, nI_eqE, nI_m1, in_t, ba0, ba1, Nat.one_ne_zero, Nat.reduceEqDiff, Nat.reduceLeDiff, Nat.add_eq_zero_iff, xk243 h.1, e1, e2, g1]
    · rw [decide_eq_false e, tr_f] at e2
      rw [if_neg e]
      obtain ⟨m', g1, g2, g3⟩ := y234 (sa := sa) (sv := sv) (d := d + 1) h 1 (by decide) (by decide) (fun _ => rfl)
      have e3 := y235 (sa := sa) (sv := sv) (d := d + 1) g3
      rw [gs_l, tr_f] at e3
      refine ⟨m', ?_, g2, g3⟩
      rw [c239, b239_0]
      simp (disch := omega) only [gq_true, gb_true, gb_false, true_and, and_true, eq_self, not_false_eq_true, not_true_eq_false, true_or, or_true, false_or, or_false, false_and, and_false, c0_v, ci_v, cl_v, cf_v, pk_mul, nI_add, nI_clamp, nI_lt0, nI_0le, nI_eq0, nI_lt0r, nI_ltE, nI_leE, nI_eqE, nI_m1, in_t, ba0, ba1, Nat.one_ne_zero, Nat.reduceEqDiff, Nat.reduceLeDiff, Nat.add_eq_zero_iff, xk243 h.1, e1, e2, g1, xk243 g3.1, e3]
theorem Nv_lt {i : Nat} (hk : Kd b n i = 3) : Nv b n i < 1000000 := by
  unfold Kd at hk
  split at hk
  · rename_i h1
    unfold tK at hk
    split at hk
    · rename_i h2
      have := wki_2 (Int64.ofNat (wvn b (St b n i) (wnd b n (St b n i) - St b n i)))
      split at hk <;> omega
    · split at hk
      · rename_i h3
        split at hk
        · rename_i h4
          unfold Nv
          have hd : ∀ t, t < nnd b n (St b n i) - St b n i → tD (b (St b n i + t)) = true := fun t ht => by
            rcases fst_spec (fun j => !tD (b j)) (n - St b n i) (St b n i) with ⟨q1, q2⟩ | ⟨q1, q2, q3, q4⟩
            · have := q2 (St b n i + t) (by omega) (by unfold nnd at ht; omega)
              simpa using this
            · have := q4 (St b n i + t) (by omega) (by unfold nnd at ht; omega)
              simpa using this
          have key : ∀ t, t ≤ nnd b n (St b n i) - St b n i → nvn b (St b n i) t < 10 ^ t := by
            intro t
            induction t with
            | zero => exact fun _ => Nat.one_pos
            | succ t iht =>
              intro ht
              have h1 := iht (by omega)
              have h2 := of_decide_eq_true (hd t (by omega))
              rw [nvn, Nat.pow_succ]
              omega
          have h5 := key _ (Nat.le_refl _)
          have h6 : 10 ^ (nnd b n (St b n i) - St b n i) ≤ 10 ^ 6 := Nat.pow_le_pow_right (by decide) h4
          omega
        · omega
      · repeat' split at hk
        all_goals omega
  · omega
/-- a number of the text -/
theorem y240 (h : RQ m N b n σ) (lo hi : Nat) (hlo : lo < 2 ^ 30) (hhi : hi < 2 ^ 30) : ∃ m' v, am_ca sa sv (d + 3) 240 [.ref (N + 243), .int (nI lo), .int (nI hi)] m = some (.inl (some (.int (v))), m') ∧ Fr (RH N) m m' ∧ RQ m' N b n (pst (eb σ (sNum b n lo hi))) ∧ ∀ x, eb σ (sNum b n lo hi) = .inr x → v = nI x.2 := by
  have e1 := y235 (sa := sa) (sv := sv) (d := d + 1) h
  cases σ with
  | inl e =>
    refine ⟨m, gi_ m (N + 243) 7, ?_, Fr.refl _ _, h, fun x hx => by cases hx⟩
    rw [gs_l, tr_f] at e1
    rw [c240, b240_0]
    simp (disch := omega) only [gq_true, gb_true, gb_false, true_and, and_true, eq_self, not_false_eq_true, not_true_eq_false, true_or, or_true, false_or, or_false, false_and, and_false, c0_v, ci_v, cl_v, cf_v, pk_mul, nI_add, nI_clamp, nI_lt0, nI_0le, nI_eq0, nI_lt0r, nI_ltE, nI_leE, nI_eqE, nI_m1, in_t, ba0, ba1, Nat.one_ne_zero, Nat.reduceEqDiff, Nat.reduceLeDiff, Nat.add_eq_zero_iff, xk243 h.1, e1, b240_20]
  | inr i =>
    rw [gs_r, tr_t] at e1
    show ∃ m' v, _ ∧ _ ∧ RQ m' N b n (pst (sNum b n lo hi i)) ∧ ∀ x, sNum b n lo hi i = .inr x → v = nI x.2
    have hP := h.2.2.2.2.2
    have hs := srt_lt (Kd b n i)
    unfold sNum
    by_cases e : Kd b n i = 3
    · have hn := Nv_lt e
      rw [if_pos e]
      have e22 := y222 (sa := sa) (sv := sv) (d := d + 1) (m := m) (nI (Nv b n i)).toInt64 (nI lo).toInt64 (nI hi).toInt64
      have e23 : decide ((nI lo).toInt64 ≤ (nI (Nv b n i)).toInt64 ∧ (nI (Nv b n i)).toInt64 ≤ (nI hi).toInt64) = decide (lo ≤ Nv b n i ∧ Nv b n i ≤ hi) := by
        refine decide_eq_decide.mpr ?_
        rw [l_le, l_le, nI_toInt (by omega), nI_toInt (by omega), nI_toInt (by omega)]
        omega
      rw [e23] at e22
      by_cases e2 : lo ≤ Nv b n i ∧ Nv b n i ≤ hi
      · rw [if_pos e2]
        rw [decide_eq_true e2, tr_t] at e22
        obtain ⟨m', g1, g2, g3⟩ := y233n (sa := sa) (sv := sv) (d := d) h
        refine ⟨m', nI (Nv b n i), ?_, g2, g3, fun x hx => by cases hx; rfl⟩
        rw [c240, b240_0]
        simp (disch := omega) only [gq_true, gb_true, gb_false, true_and, and_true, eq_self, not_false_eq_true, not_true_eq_false, true_or, or_true, false_or, or_false, false_and, and_false, c0_v, ci_v, cl_v, cf_v, pk_mul, nI_add, nI_clamp, nI_lt0, nI_0le, nI_eq0, nI_lt0r, nI_ltE, nI_leE, nI_eqE, nI_m1, in_t, ba0, ba1, Nat.one_ne_zero, Nat.reduceEqDiff, Nat.reduceLeDiff, Nat.add_eq_zero_iff, xk243 h.1, e1, hP.2.2.1, srt_2.mpr e, b240_20, hP.2.2.2.1 e, e22, g1]
      · rw [if_neg e2]
        rw [decide_eq_false e2, tr_f] at e22
        obtain ⟨m', g1, g2, g3⟩ := y234 (sa := sa) (sv := sv) (d := d + 1) h 2 (by decide) (by decide) (fun z => by omega)
        have e3 := y235 (sa := sa) (sv := sv) (d := d + 1) g3
        rw [gs_l, tr_f] at e3
        refine ⟨m', nI (Nv b n i), ?_, g2, g3, fun x hx => by cases hx⟩
        rw [c240, b240_0]
        simp (disch := omega) only [gq_true, gb_true, gb_false, true_and, and_true, eq_self, not_false_eq_true, not_true_eq_false, true_or, or_true, false_or, or_false, false_and, and_false, c0_v, ci_v, cl_v, cf_v, pk_mul, nI_add, nI_clamp, nI_lt0, nI_0le, nI_eq0, nI_lt0r, nI_ltE, nI_leE, nI_eqE, nI_m1, in_t, ba0, ba1, Nat.one_ne_zero, Nat.reduceEqDiff, Nat.reduceLeDiff, Nat.add_eq_zero_iff, xk243 h.1, e1, hP.2.2.1, srt_2.mpr e, b240_20, hP.2.2.2.1 e, e22, g1, xk243 g3.1, e3]
    · rw [if_neg e]
      obtain ⟨m', g1, g2, g3⟩ := y234 (sa := sa) (sv := sv) (d := d + 1) h 1 (by decide) (by decide) (fun _ => rfl)
      have e3 := y235 (sa := sa) (sv := sv) (d := d + 1) g3
      rw [gs_l, tr_f] at e3
      refine ⟨m', gi_ m' (N + 243) 7, ?_, g2, g3, fun x hx => by cases hx⟩
      rw [c240, b240_0]
      simp (disch := omega) only [gq_true, gb_true, gb_false, true_and, and_true, eq_self, not_false_eq_true, not_true_eq_false, true_or, or_true, false_or, or_false, false_and, and_false, c0_v, ci_v, cl_v, cf_v, pk_mul, nI_add, nI_clamp, nI_lt0, nI_0le, nI_eq0, nI_lt0r, nI_ltE, nI_leE, nI_eqE, nI_m1, in_t, ba0, ba1, Nat.one_ne_zero, Nat.reduceEqDiff, Nat.reduceLeDiff, Nat.add_eq_zero_iff, xk243 h.1, e1, hP.2.2.1, b240_20, g1, xk243 g3.1, e3]
      rw [gb_neg (fun z => e (srt_2.mp z))]
end D80
