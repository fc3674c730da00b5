/-! the report of lines, a report's byte: the reference -/
section R89
variable {sa sv d N n B : Nat} {X : TX} {m m' m1 : am_M} {L : List Nat} {s : Nat → Int32} {q : Nat → Int64}
theorem y360_117 (hL : WL s) (i : Nat) (h : RpR m N L) (hR : RS m N s q) (hi : i < cN s 6) (h64 : i < 64) (hl : L.length + 20 ≤ 3000) : ∃ m', r360 sa sv (d + 2) 117 [some (.ref (N + 243)), some (.int (nI (4 * i)))] [] m = r360 sa sv (d + 2) 6 [some (.ref (N + 243)), some (.int (nI (4 * (i + 1))))] [] m' ∧ Fr (PRr N) m m' ∧ RpR m' N (L ++ ((if cN s (767 + 4 * i + 3) = 0 then [] else numL (cN s (767 + 4 * i + 3))) ++ [10])) := by
  obtain ⟨w3, u3⟩ := (wl_h hL i hi).c (by decide)
  have hX := h.1
  have z245 : (N + 245 = 0) = False := eq_false (by omega)
  have g3 : gi_ m (N + 245) (767 + 4 * i + 3) = nI (cN s (767 + 4 * i + 3)) := (congrFun hR.2.1 _).trans w3
  have n2 : (numL (cN s (767 + 4 * i + 3))).length ≤ 8 := by
    unfold numL
    rw [emN_len]
    exact ndg_7 (by omega)
  by_cases z : cN s (767 + 4 * i + 3) = 0
  · obtain ⟨m1, a1, a2, a3⟩ := y355 (sa := sa) (sv := sv) (d := d + 1) h 10 (by omega)
    refine ⟨m1, ?_, a2, by rw [if_pos z, List.nil_append]; exact a3⟩
    rw [b360_117]
    simp (disch := omega) only [gq_true, gb_true, gb_false, true_and, and_true, eq_self, not_false_eq_true, not_true_eq_false, true_or, or_true, false_or, or_false, false_and, and_false, c0_v, ci_v, cl_v, cf_v, pk_mul, nI_add, nI_clamp, nI_lt0, nI_0le, nI_eq0, nI_lt0r, nI_ltE, nI_leE, nI_eqE, nI_m1, in_t, ba0, ba1, Nat.one_ne_zero, Nat.reduceEqDiff, Nat.reduceLeDiff, Nat.add_eq_zero_iff, xk243 hX, xr243_15 hX, xk245 hX, z245, g3, z, nI_le0, Nat.le_refl, a1, Nat.mul_add, Nat.mul_one]
  · obtain ⟨m1, a1, a2, a3⟩ := y356 (sa := sa) (sv := sv) (d := d) h (cN s (767 + 4 * i + 3)) (by omega) (by omega)
    have a1' : am_ca sa sv (d + 2) 356 [.ref (N + 243), .long (nI (cN s (767 + 4 * i + 3))).toInt64] m = some (.inl none, m1) := by
      rw [nI_l (by omega)]; exact a1
    obtain ⟨m2, b1, b2, b3⟩ := y355 (sa := sa) (sv := sv) (d := d + 1) a3 10 (by rw [List.length_append]; omega)
    refine ⟨m2, ?_, a2.trans b2, by rw [if_neg z, ← List.append_assoc]; exact b3⟩
    rw [b360_117]
    simp (disch := omega) only [gq_true, gb_true, gb_false, true_and, and_true, eq_self, not_false_eq_true, not_true_eq_false, true_or, or_true, false_or, or_false, false_and, and_false, c0_v, ci_v, cl_v, cf_v, pk_mul, nI_add, nI_clamp, nI_lt0, nI_0le, nI_eq0, nI_lt0r, nI_ltE, nI_leE, nI_eqE, nI_m1, in_t, ba0, ba1, Nat.one_ne_zero, Nat.reduceEqDiff, Nat.reduceLeDiff, Nat.add_eq_zero_iff, xk243 hX, xr243_15 hX, xk245 hX, z245, g3, nI_le0, eq_false z, a1', xk243 a3.1, b1, Nat.mul_add, Nat.mul_one]
theorem y360_6 (hC : WC s) (hL : WL s) (hN : WN s q) : ∀ (k i : Nat) (m : am_M), i + k = cN s 6 → RpR m N (rlB s q i) → RS m N s q → ∃ m', r360 sa sv (d + 2) 6 [some (.ref (N + 243)), some (.int (nI (4 * i)))] [] m = some (.inl (some (.int (nI (rlB s q (cN s 6)).length))), m') ∧ Fr (PRr N) m m' ∧ RpR m' N (rlB s q (cN s 6)) := by
  have n64 := isN_lt (wc_nl hC) (by decide)
  obtain ⟨e6, b6⟩ := (wc_nl hC).c (by decide)
  have z245 : (N + 245 = 0) = False := eq_false (by omega)
  have z249 : (N + 249 = 0) = False := eq_false (by omega)
  intro k
  induction k with
  | zero =>
    intro i m hp h hR
    have hX := h.1
    have g6 : gi_ m (N + 245) 6 = nI (cN s 6) := (congrFun hR.2.1 6).trans e6
    refine ⟨m, ?_, Fr.refl _ _, by rw [show cN s 6 = i by omega]; exact h⟩
    rw [b360_6]
    simp (disch := omega) only [gq_true, gb_true, gb_false, true_and, and_true, eq_self, not_false_eq_true, not_true_eq_false, true_or, or_true, false_or, or_false, false_and, and_false, c0_v, ci_v, cl_v, cf_v, pk_mul, nI_add, nI_clamp, nI_lt0, nI_0le, nI_eq0, nI_lt0r, nI_ltE, nI_leE, nI_eqE, nI_m1, in_t, ba0, ba1, Nat.one_ne_zero, Nat.reduceEqDiff, Nat.reduceLeDiff, Nat.add_eq_zero_iff, xk243 hX, xr243_15 hX, xk245 hX, z245, g6, show cN s 6 = i by omega, h.2.1, Nat.le_refl]
  | succ k ih =>
    intro i m hp h hR
    have hX := h.1
    have g6 : gi_ m (N + 245) 6 = nI (cN s 6) := (congrFun hR.2.1 6).trans e6
    have len := rlB_len q hL i (by omega)
    have np := isN_lt (wc_np hC) (by decide)
    have nw := isN_lt (wc_nw hC) (by decide)
    obtain ⟨w0, u0⟩ := (wl_w hL i (by omega)).c (by omega)
    obtain ⟨w1, u1⟩ := (wl_p hL i (by omega)).c (by omega)
    obtain ⟨w2, u2⟩ := (wl_a hL i (by omega)).c (by decide)
    obtain ⟨w3, u3⟩ := (wl_h hL i (by omega)).c (by decide)
    have nl := namL_len (q (472 + cN s (767 + 4 * i + 0)))
    have nl2 := namL_len (q (462 + cN s (767 + 4 * i + 1)))
    have n1 := numL_len (cN s (767 + 4 * i + 2))
    have g0 : gi_ m (N + 245) (767 + 4 * i) = nI (cN s (767 + 4 * i + 0)) := (congrFun hR.2.1 _).trans w0
    have l472 : gl_ m (N + 249) (472 + cN s (767 + 4 * i + 0)) = q (472 + cN s (767 + 4 * i + 0)) := congrFun hR.2.2 _
    obtain ⟨m1, a1, a2, a3⟩ := y357 (sa := sa) (sv := sv) (d := d) h (hN.2.2.2 _ u0) (by omega)
    have R1 := hR.rp (a2.mono fun a k z => z.to)
    obtain ⟨m2, b1, b2, b3⟩ := y355 (sa := sa) (sv := sv) (d := d + 1) a3 32 (by simp only [List.length_append]; omega)
    have R2 := R1.rp (b2.mono fun a k z => z.to)
    have g1 : gi_ m2 (N + 245) (767 + 4 * i + 1) = nI (cN s (767 + 4 * i + 1)) := (congrFun R2.2.1 _).trans w1
    have l462 : gl_ m2 (N + 249) (462 + cN s (767 + 4 * i + 1)) = q (462 + cN s (767 + 4 * i + 1)) := congrFun R2.2.2 _
    obtain ⟨m3, c1, c2, c3⟩ := y357 (sa := sa) (sv := sv) (d := d) b3 (hN.2.2.1 _ u1) (by simp only [List.length_append, List.length_singleton]; omega)
    have R3 := R2.rp (c2.mono fun a k z => z.to)
    obtain ⟨m4, d1, d2, d3⟩ := y355 (sa := sa) (sv := sv) (d := d + 1) c3 32 (by simp only [List.length_append, List.length_singleton]; omega)
    have R4 := R3.rp (d2.mono fun a k z => z.to)
    have g2 : gi_ m4 (N + 245) (767 + 4 * i + 2) = nI (cN s (767 + 4 * i + 2)) := (congrFun R4.2.1 _).trans w2
    obtain ⟨m5, e1, e2, e3⟩ := y356 (sa := sa) (sv := sv) (d := d) d3 (cN s (767 + 4 * i + 2)) (by omega) (by simp only [List.length_append, List.length_singleton]; omega)
    have e1' : am_ca sa sv (d + 2) 356 [.ref (N + 243), .long (nI (cN s (767 + 4 * i + 2))).toInt64] m4 = some (.inl none, m5) := by
      rw [nI_l (by omega)]; exact e1
    have R5 := R4.rp (e2.mono fun a k z => z.to)
    have g3 : gi_ m5 (N + 245) (767 + 4 * i + 3) = nI (cN s (767 + 4 * i + 3)) := (congrFun R5.2.1 _).trans w3
    have fr5 : Fr (PRr N) m m5 := (((a2.trans b2).trans c2).trans d2).trans e2
    have fin : ∀ (m6 : am_M), Fr (PRr N) m5 m6 → RS m6 N s q → RpR m6 N (rlB s q i ++ namL (q (472 + cN s (767 + 4 * i + 0))) ++ [32] ++ namL (q (462 + cN s (767 + 4 * i + 1))) ++ [32] ++ numL (cN s (767 + 4 * i + 2)) ++ (if cN s (767 + 4 * i + 3) = 0 then [] else [45])) → ∃ m', r360 sa sv (d + 2) 117 [some (.ref (N + 243)), some (.int (nI (4 * i)))] [] m6 = some (.inl (some (.int (nI (rlB s q (cN s 6)).length))), m') ∧ Fr (PRr N) m m' ∧ RpR m' N (rlB s q (cN s 6)) := fun m6 f6 R6 h6 => by
      obtain ⟨m7, j1, j2, j3⟩ := y360_117 (sa := sa) (sv := sv) (d := d) hL i h6 R6 (by omega) (by omega) (by
        split <;> simp only [List.length_append, List.length_singleton, List.length_nil] <;> omega)
      have hL7 : RpR m7 N (rlB s q (i + 1)) := by
        unfold rlB rlR
        by_cases z : cN s (767 + 4 * i + 3) = 0
        · rw [if_pos z] at j3 ⊢
          rw [if_pos z] at j3
          simpa only [List.append_assoc, List.nil_append, List.append_nil] using j3
        · rw [if_neg z] at j3 ⊢
          rw [if_neg z] at j3
          simpa only [List.append_assoc] using j3
      obtain ⟨m8, i1, i2, i3⟩ := ih (i + 1) m7 (by omega) hL7 (R6.rp (j2.mono fun a k z => z.to))
      exact ⟨m8, j1.trans i1, ((fr5.trans f6).trans j2).trans i2, i3⟩
    by_cases z : cN s (767 + 4 * i + 3) = 0
    · obtain ⟨m', t1, t2, t3⟩ := fin m5 (Fr.refl _ _) R5 (by rw [if_pos z, List.append_nil]; exact e3)
      refine ⟨m', ?_, t2, t3⟩
      rw [b360_6]
      simp (disch := omega) only [gq_true, gb_true, gb_false, true_and, and_true, eq_self, not_false_eq_true, not_true_eq_false, true_or, or_true, false_or, or_false, false_and, and_false, c0_v, ci_v, cl_v, cf_v, pk_mul, nI_add, nI_clamp, nI_lt0, nI_0le, nI_eq0, nI_lt0r, nI_ltE, nI_leE, nI_eqE, nI_m1, in_t, ba0, ba1, Nat.one_ne_zero, Nat.reduceEqDiff, Nat.reduceLeDiff, Nat.add_eq_zero_iff, xk243 hX, xr243_15 hX, xk245 hX, z245, g6, eq_false (show ¬ 4 * cN s 6 ≤ 4 * i by omega), xr243_19 hX, xk249 hX, z249, g0, l472, a1, xk243 a3.1, b1, xk243 b3.1, xr243_19 b3.1, xk249 b3.1, xr243_15 b3.1, xk245 b3.1, g1, l462, c1, xk243 c3.1, d1, xk243 d3.1, xr243_15 d3.1, xk245 d3.1, g2, e1', xk243 e3.1, xr243_15 e3.1, xk245 e3.1, g3, z, nI_le0, Nat.le_refl]
      exact t1
    · obtain ⟨m6, f1, f2, f3⟩ := y355 (sa := sa) (sv := sv) (d := d + 1) e3 45 (by simp only [List.length_append, List.length_singleton]; omega)
      obtain ⟨m', t1, t2, t3⟩ := fin m6 f2 (R5.rp (f2.mono fun a k z => z.to)) (by rw [if_neg z]; exact f3)
      refine ⟨m', ?_, t2, t3⟩
      rw [b360_6]
      simp (disch := omega) only [gq_true, gb_true, gb_false, true_and, and_true, eq_self, not_false_eq_true, not_true_eq_false, true_or, or_true, false_or, or_false, false_and, and_false, c0_v, ci_v, cl_v, cf_v, pk_mul, nI_add, nI_clamp, nI_lt0, nI_0le, nI_eq0, nI_lt0r, nI_ltE, nI_leE, nI_eqE, nI_m1, in_t, ba0, ba1, Nat.one_ne_zero, Nat.reduceEqDiff, Nat.reduceLeDiff, Nat.add_eq_zero_iff, xk243 hX, xr243_15 hX, xk245 hX, z245, g6, eq_false (show ¬ 4 * cN s 6 ≤ 4 * i by omega), xr243_19 hX, xk249 hX, z249, g0, l472, a1, xk243 a3.1, b1, xk243 b3.1, xr243_19 b3.1, xk249 b3.1, xr243_15 b3.1, xk245 b3.1, g1, l462, c1, xk243 c3.1, d1, xk243 d3.1, xr243_15 d3.1, xk245 d3.1, g2, e1', xk243 e3.1, xr243_15 e3.1, xk245 e3.1, g3, nI_le0, eq_false z, f1]
      exact t1
theorem y360 (h : TR m N X) (hs : X.s = gi_ m (N + 245)) (hq : X.q = gl_ m (N + 249)) (hG : XG B X) : RN m N (repX X (rlB X.s X.q (cN X.s 6))) (nI (rlB X.s X.q (cN X.s 6)).length) (am_ca sa sv (d + 3) 360 [.ref (N + 243)] m) := by
  have hR := h.RS hs hq
  obtain ⟨m1, a1, a2, a3, a4⟩ := y358 (sa := sa) (sv := sv) (d := d + 1) h.x
  obtain ⟨m2, b1, b2, b3⟩ := y360_6 (sa := sa) (sv := sv) (d := d) hG.1.C hG.1.1.2.2.2.2.1 hG.1.1.2.2.2.2.2.2.2 (cN X.s 6) 0 m1 (by omega) a3 (hR.rp a2)
  have hf : Fr (PRs N) m m2 := a2.trans (b2.mono fun a k z => z.to)
  refine ⟨m2, hf.mono fun a k z => z.k, h.rep hf b3 ((b2.2.1 _ _ (by unfold PRr; omega)).trans a4), ?_⟩
  rw [c360, b360_0]
  simp (disch := omega) only [gq_true, gb_true, gb_false, true_and, and_true, eq_self, not_false_eq_true, not_true_eq_false, true_or, or_true, false_or, or_false, false_and, and_false, c0_v, ci_v, cl_v, cf_v, pk_mul, nI_add, nI_clamp, nI_lt0, nI_0le, nI_eq0, nI_lt0r, nI_ltE, nI_leE, nI_eqE, nI_m1, in_t, ba0, ba1, Nat.one_ne_zero, Nat.reduceEqDiff, Nat.reduceLeDiff, Nat.add_eq_zero_iff, xk243 h.x, a1]
  exact b1
theorem y361 (h : TR m N X) (hr : X.r ≤ 3000) (l : Int32) : RI m N X (if inR l X.r = true then 0 else 1) (nI (X.rb l.toNatClampNeg)) (am_ca sa sv (d + 3) 361 [.ref (N + 243), .int l] m) := by
  have hX := h.x
  have hR : RS m N (gi_ m (N + 245)) (gl_ m (N + 249)) := ⟨h.x, rfl, rfl⟩
  have q0 := y225_0 (sa := sa) (sv := sv) (d := d) hR
  have q1 := y225_1 (sa := sa) (sv := sv) (d := d) hR
  obtain ⟨c, c1, c2, c3⟩ := h.h
  by_cases z : inR l X.r = true
  · rw [if_pos z]
    obtain ⟨k, hk, rfl⟩ := (inR_t (by omega)).mp z
    have c0 : ¬ c = 0 := fun y => by have := c3 y; omega
    obtain ⟨r, hr1⟩ : ∃ r, X.r = r + 1 := ⟨X.r - 1, by omega⟩
    have q2 := y222 (sa := sa) (sv := sv) (d := d + 1) (m := m) (nI k).toInt64 0 (nI r).toInt64
    rw [decide_eq_true (by
      rw [show (0 : Int64) = (0 : Int32).toInt64 from rfl, l_le, l_le, nI_toInt (by omega), nI_toInt (by omega), show (0 : Int32).toInt = 0 from rfl]
      omega), tr_t] at q2
    have r44 : gi_ m (N + 243) 44 = nI (r + 1) := by rw [h.r, hr1]
    have e0 : gi_ (si_ m (N + 243) 0 (nI 0)) (N + 265) k = nI (X.rb k) := (if_neg (by omega)).trans (h.rb k hk)
    refine ⟨_, _, KR.c0 m N (nI 0), h.c0 (nI 0), ?_, if_pos ⟨rfl, rfl⟩, fun _ => rfl⟩
    rw [nI_clamp (by omega), c361, b361_0]
    simp (disch := omega) only [gq_true, gb_true, gb_false, true_and, and_true, eq_self, not_false_eq_true, not_true_eq_false, true_or, or_true, false_or, or_false, false_and, and_false, c0_v, ci_v, cl_v, cf_v, pk_mul, nI_add, nI_clamp, nI_lt0, nI_0le, nI_eq0, nI_lt0r, nI_ltE, nI_leE, nI_eqE, nI_m1, in_t, ba0, ba1, Nat.one_ne_zero, Nat.reduceEqDiff, Nat.reduceLeDiff, Nat.add_eq_zero_iff, xk243 hX, c2, eq_false c0, r44, nI_p1, q2, q1, gk_siF, gr_si, xr243_43 hX, xk265 hX, eq_false (show ¬ N + 265 = 0 by omega), e0]
  · rw [if_neg z]
    refine RI.no h 1 (by omega) _ ?_
    by_cases c0 : c = 0
    · rw [c361, b361_0]
      simp (disch := omega) only [gq_true, gb_true, gb_false, true_and, and_true, eq_self, not_false_eq_true, not_true_eq_false, true_or, or_true, false_or, or_false, false_and, and_false, c0_v, ci_v, cl_v, cf_v, pk_mul, nI_add, nI_clamp, nI_lt0, nI_0le, nI_eq0, nI_lt0r, nI_ltE, nI_leE, nI_eqE, nI_m1, in_t, ba0, ba1, Nat.one_ne_zero, Nat.reduceEqDiff, Nat.reduceLeDiff, Nat.add_eq_zero_iff, xk243 hX, c2, c0, q0]
    · have q2 : am_ca sa sv (d + 2) 222 [.long l.toInt64, .long 0, .long (gi_ m (N + 243) 44 - nI 1).toInt64] m = some (.inl (some (.int (nI 0))), m) := by
        rw [y222, decide_eq_false (fun y => z ?_), tr_f]
        rw [show (0 : Int64) = (0 : Int32).toInt64 from rfl, l_le, l_le, show (0 : Int32).toInt = 0 from rfl, h.r] at y
        by_cases r0 : X.r = 0
        · have e : (nI X.r - nI 1).toInt = -1 := by rw [r0]; decide
          rw [e] at y
          omega
        · obtain ⟨r, hr1⟩ : ∃ r, X.r = r + 1 := ⟨X.r - 1, by omega⟩
          rw [hr1, nI_p1, nI_toInt (by omega)] at y
          unfold inR
          rw [hr1]
          exact decide_eq_true (by omega)
      rw [c361, b361_0]
      simp (disch := omega) only [gq_true, gb_true, gb_false, true_and, and_true, eq_self, not_false_eq_true, not_true_eq_false, true_or, or_true, false_or, or_false, false_and, and_false, c0_v, ci_v, cl_v, cf_v, pk_mul, nI_add, nI_clamp, nI_lt0, nI_0le, nI_eq0, nI_lt0r, nI_ltE, nI_leE, nI_eqE, nI_m1, in_t, ba0, ba1, Nat.one_ne_zero, Nat.reduceEqDiff, Nat.reduceLeDiff, Nat.add_eq_zero_iff, xk243 hX, c2, eq_false c0, q2, q0]
end R89
