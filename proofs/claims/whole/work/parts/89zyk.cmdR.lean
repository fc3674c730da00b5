/-! a script is read (reference): the loop -/
section R89
variable {sa sv d N n B i o W : Nat} {b : Nat → Nat} {m m' m0 : am_M} {s : Nat → Int32} {q : Nat → Int64} {σ : Er ⊕ Nat} {C : List Ins}
theorem y350_48e {e : Er} (h : RQ m N b n (.inl e)) (l1 : Int32) (o2 : Option Value) : r350 sa sv (d + 1) 48 [some (.ref (N + 243)), some (.int l1), o2] [] m = some (.inl none, m) := by
  have q := y235 (sa := sa) (sv := sv) (d := d) h
  rw [gs_l, tr_f] at q
  rw [b350_48]
  simp (disch := omega) only [gq_true, gb_true, gb_false, true_and, and_true, eq_self, not_false_eq_true, not_true_eq_false, true_or, or_true, false_or, or_false, false_and, and_false, c0_v, ci_v, cl_v, cf_v, pk_mul, nI_add, nI_clamp, nI_lt0, nI_0le, nI_eq0, nI_lt0r, nI_ltE, nI_leE, nI_eqE, nI_m1, in_t, ba0, ba1, Nat.one_ne_zero, Nat.reduceEqDiff, Nat.reduceLeDiff, Nat.add_eq_zero_iff, xk243 h.1, q]
theorem y350 (h : RQ m N b n (.inr i)) (hR : RS m N s q) (hG : WG B s q) (h0 : CdR m N C) (hL : C.length + 2 ≤ 60 ∨ W = 30) (hW : W ≤ 30) (ho : o ≤ 2) (h40 : gi_ m (N + 243) 40 = nI W) (h41 : gi_ m (N + 243) 41 = nI o) : ∃ m', am_ca sa sv (d + 5) 350 [.ref (N + 243)] m = some (.inl none, m') ∧ CmO N n b C o W m m' (sCm s q b n o W i) := by
  have hX := h.1
  have q348 := y348 (sa := sa) (sv := sv) (d := d + 2) h
  have hK := Kd_lt b n i
  have n15 : (nI 5 = -1) = False := eq_false (by decide)
  have m15 : ((-1 : Int32) = nI 5) = False := eq_false (by decide)
  rw [sCm_t]
  by_cases ha : Kd b n i = 8 ∨ (23 ≤ Kd b n i ∧ Kd b n i ≤ 27)
  · rw [if_pos ha] at q348
    rw [if_neg (fun z => z ha)]
    have hr5 : rkd (Kd b n i) < 6 := by unfold rkd; (repeat' split) <;> omega
    have nm1 : (nI (rkd (Kd b n i)) = -1) = False := nI_m1 (by omega)
    have r27 : (rkd (Kd b n i) = 5) ↔ Kd b n i = 27 := by unfold rkd; (repeat' split) <;> omega
    by_cases h27 : Kd b n i = 27 ∧ o = 2
    · rw [if_pos h27]
      obtain ⟨m1, a1, a2, a3⟩ := y234 (sa := sa) (sv := sv) (d := d + 3) h 4 (by omega) (by omega) (fun z => by omega)
      have f1 : Fr (PRy N) m m1 := a2.mono fun a k z => Or.inl z
      have g40 : gi_ m1 (N + 243) 40 = nI W := (a2.2.1 _ _ (by unfold RH; omega)).trans h40
      have q6 := y234e (sa := sa) (sv := sv) (d := d + 3) a3 (nI 6)
      refine ⟨m1, ?_, f1, a3⟩
      rw [c350, b350_0]
      simp (disch := omega) only [gq_true, gb_true, gb_false, true_and, and_true, eq_self, not_false_eq_true, not_true_eq_false, true_or, or_true, false_or, or_false, false_and, and_false, c0_v, ci_v, cl_v, cf_v, pk_mul, nI_add, nI_clamp, nI_lt0, nI_0le, nI_eq0, nI_lt0r, nI_ltE, nI_leE, nI_eqE, nI_m1, in_t, ba0, ba1, Nat.one_ne_zero, Nat.reduceEqDiff, Nat.reduceLeDiff, Nat.add_eq_zero_iff, xk243 hX, q348, nm1]
      rw [b350_15]
      simp (disch := omega) only [gq_true, gb_true, gb_false, true_and, and_true, eq_self, not_false_eq_true, not_true_eq_false, true_or, or_true, false_or, or_false, false_and, and_false, c0_v, ci_v, cl_v, cf_v, pk_mul, nI_add, nI_clamp, nI_lt0, nI_0le, nI_eq0, nI_lt0r, nI_ltE, nI_leE, nI_eqE, nI_m1, in_t, ba0, ba1, Nat.one_ne_zero, Nat.reduceEqDiff, Nat.reduceLeDiff, Nat.add_eq_zero_iff, r27.mpr h27.1, xk243 hX, h41, h27.2, a1, xk243 a3.1, g40]
      by_cases w : W = 30
      · rw [gb_pos w, q6, c0_v, y350_48e a3]
      · rw [gb_neg w, y350_48e a3]
    · rw [if_neg h27]
      by_cases w30 : W = 30
      · rw [if_pos w30]
        obtain ⟨m1, a1, a2, a3⟩ := y234 (sa := sa) (sv := sv) (d := d + 3) h 6 (by omega) (by omega) (fun z => by omega)
        have f1 : Fr (PRy N) m m1 := a2.mono fun a k z => Or.inl z
        refine ⟨m1, ?_, f1, a3⟩
        rw [c350, b350_0]
        simp (disch := omega) only [gq_true, gb_true, gb_false, true_and, and_true, eq_self, not_false_eq_true, not_true_eq_false, true_or, or_true, false_or, or_false, false_and, and_false, c0_v, ci_v, cl_v, cf_v, pk_mul, nI_add, nI_clamp, nI_lt0, nI_0le, nI_eq0, nI_lt0r, nI_ltE, nI_leE, nI_eqE, nI_m1, in_t, ba0, ba1, Nat.one_ne_zero, Nat.reduceEqDiff, Nat.reduceLeDiff, Nat.add_eq_zero_iff, xk243 hX, q348, nm1]
        rw [b350_15]
        simp (disch := omega) only [gq_true, gb_true, gb_false, true_and, and_true, eq_self, not_false_eq_true, not_true_eq_false, true_or, or_true, false_or, or_false, false_and, and_false, c0_v, ci_v, cl_v, cf_v, pk_mul, nI_add, nI_clamp, nI_lt0, nI_0le, nI_eq0, nI_lt0r, nI_ltE, nI_leE, nI_eqE, nI_m1, in_t, ba0, ba1, Nat.one_ne_zero, Nat.reduceEqDiff, Nat.reduceLeDiff, Nat.add_eq_zero_iff, xk243 hX, h41, h40, w30, a1]
        by_cases k27 : rkd (Kd b n i) = 5
        · rw [gb_pos k27, gb_neg (fun z => h27 ⟨r27.mp k27, z⟩), y350_48e a3]
        · rw [gb_neg k27, y350_48e a3]
      · rw [if_neg w30]
        have fin : ∃ m', r350 sa sv (d + 4) 48 [some (.ref (N + 243)), some (.int (nI (rkd (Kd b n i)))), none] [] m = some (.inl none, m') ∧ CmO N n b C o W m m' (sCt s q b n i) := by
          have : Kd b n i = 23 ∨ Kd b n i = 8 ∨ Kd b n i = 24 ∨ Kd b n i = 25 ∨ Kd b n i = 26 ∨ Kd b n i = 27 := by omega
          rcases this with z | z | z | z | z | z
          · rw [z]; exact y350_k23 h hR hG h0 (by omega) (by omega) h40 h41 z none
          · rw [z]; exact y350_k8 h hR hG h0 (by omega) (by omega) h40 h41 z none
          · rw [z]; exact y350_k24 h hR hG h0 (by omega) (by omega) h40 h41 z none
          · rw [z]; exact y350_k25 h hR hG h0 (by omega) (by omega) h40 h41 z none
          · rw [z]; exact y350_k26 h hR hG h0 (by omega) (by omega) h40 h41 z none
          · rw [z]; exact y350_k27 h hR hG h0 (by omega) (by omega) h40 h41 z none
        obtain ⟨m', f1, f2⟩ := fin
        refine ⟨m', ?_, f2⟩
        rw [c350, b350_0]
        simp (disch := omega) only [gq_true, gb_true, gb_false, true_and, and_true, eq_self, not_false_eq_true, not_true_eq_false, true_or, or_true, false_or, or_false, false_and, and_false, c0_v, ci_v, cl_v, cf_v, pk_mul, nI_add, nI_clamp, nI_lt0, nI_0le, nI_eq0, nI_lt0r, nI_ltE, nI_leE, nI_eqE, nI_m1, in_t, ba0, ba1, Nat.one_ne_zero, Nat.reduceEqDiff, Nat.reduceLeDiff, Nat.add_eq_zero_iff, xk243 hX, q348, nm1]
        rw [b350_15]
        simp (disch := omega) only [gq_true, gb_true, gb_false, true_and, and_true, eq_self, not_false_eq_true, not_true_eq_false, true_or, or_true, false_or, or_false, false_and, and_false, c0_v, ci_v, cl_v, cf_v, pk_mul, nI_add, nI_clamp, nI_lt0, nI_0le, nI_eq0, nI_lt0r, nI_ltE, nI_leE, nI_eqE, nI_m1, in_t, ba0, ba1, Nat.one_ne_zero, Nat.reduceEqDiff, Nat.reduceLeDiff, Nat.add_eq_zero_iff, xk243 hX, h41, h40, eq_false w30, f1, gb_same]
        by_cases k27 : rkd (Kd b n i) = 5
        · rw [gb_pos k27, gb_neg (fun z => h27 ⟨r27.mp k27, z⟩)]
        · rw [gb_neg k27]
  · rw [if_neg ha] at q348
    rw [if_pos ha]
    obtain ⟨m1, a1, a2, a3⟩ := y234 (sa := sa) (sv := sv) (d := d + 3) h 1 (by omega) (by omega) (fun z => rfl)
    have f1 : Fr (PRy N) m m1 := a2.mono fun a k z => Or.inl z
    have g40 : gi_ m1 (N + 243) 40 = nI W := (a2.2.1 _ _ (by unfold RH; omega)).trans h40
    have q6 := y234e (sa := sa) (sv := sv) (d := d + 3) a3 (nI 6)
    refine ⟨m1, ?_, f1, a3⟩
    rw [c350, b350_0]
    simp (disch := omega) only [gq_true, gb_true, gb_false, true_and, and_true, eq_self, not_false_eq_true, not_true_eq_false, true_or, or_true, false_or, or_false, false_and, and_false, c0_v, ci_v, cl_v, cf_v, pk_mul, nI_add, nI_clamp, nI_lt0, nI_0le, nI_eq0, nI_lt0r, nI_ltE, nI_leE, nI_eqE, nI_m1, in_t, ba0, ba1, Nat.one_ne_zero, Nat.reduceEqDiff, Nat.reduceLeDiff, Nat.add_eq_zero_iff, xk243 hX, q348, a1]
    rw [b350_15]
    simp (disch := omega) only [gq_true, gb_true, gb_false, true_and, and_true, eq_self, not_false_eq_true, not_true_eq_false, true_or, or_true, false_or, or_false, false_and, and_false, c0_v, ci_v, cl_v, cf_v, pk_mul, nI_add, nI_clamp, nI_lt0, nI_0le, nI_eq0, nI_lt0r, nI_ltE, nI_leE, nI_eqE, nI_m1, in_t, ba0, ba1, Nat.one_ne_zero, Nat.reduceEqDiff, Nat.reduceLeDiff, Nat.add_eq_zero_iff, m15, xk243 a3.1, g40]
    by_cases w : W = 30
    · rw [gb_pos w, q6, c0_v, y350_48e a3]
    · rw [gb_neg w, y350_48e a3]
/-- a closing bracket and its semicolon, or none -/
def EnO (N n i0 : Nat) (b : Nat → Nat) (s : Nat → Int32) (q : Nat → Int64) (m m' : am_M) (z : Er ⊕ List Ins) : Prop := Fr (PRy N) m m' ∧ ((∃ e, z = .inl e ∧ RQ m' N b n (.inl e)) ∨ ∃ o' W' C' j, RQ m' N b n (.inr j) ∧ CdR m' N C' ∧ C'.length + o' ≤ 2 * W' ∧ W' ≤ 30 ∧ o' ≤ 2 ∧ gi_ m' (N + 243) 40 = nI W' ∧ gi_ m' (N + 243) 41 = nI o' ∧ ¬ (0 < o' ∧ Kd b n j = 6) ∧ j ≤ 900 ∧ (i0 ≤ j ∧ (j = i0 ∨ 0 < j ∧ ¬ Kd b n (j - 1) = 0)) ∧ z = sFx s q b n o' W' C' j)
end R89
