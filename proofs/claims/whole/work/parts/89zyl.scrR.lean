/-! a script is read (reference), to its end -/
section R89
variable {sa sv d N n B i T : Nat} {b : Nat → Nat} {m m' m0 : am_M} {s : Nat → Int32} {q : Nat → Int64} {σ : Er ⊕ Nat}
def Tk (b : Nat → Nat) (n T : Nat) : Prop := T ≤ 900 ∧ ∀ i, ¬ Kd b n i = 0 → i < T
theorem Tk_ex (b : Nat → Nat) (n : Nat) (hn : n ≤ 900) : ∃ T, Tk b n T := by
  obtain ⟨T, h1, h2, h3⟩ := tok_end b n
  refine ⟨T, by omega, fun i hi => ?_⟩
  rcases Nat.lt_or_ge i T with z | z
  · exact z
  · have : ∀ k, St b n (T + k) = n := by
      intro k
      induction k with
      | zero => exact h2
      | succ k ih =>
        have e : tp b n (T + (k + 1)) = n := by
          show (if skp b n (tp b n (T + k)) < n then _ else n) = n
          have ih' : skp b n (tp b n (T + k)) = n := ih
          rw [if_neg (by omega)]
        have l1 := tp_St (b := b) (n := n) (T + (k + 1))
        have l2 := St_le (b := b) (n := n) (T + (k + 1))
        omega
    have e := this (i - T)
    rw [show T + (i - T) = i by omega] at e
    exact absurd (by unfold Kd; rw [if_neg (by omega)]) hi
theorem y351_e {e : Er} (h : RQ m N b n (.inl e)) : r351 sa sv (d + 1) 0 [some (.ref (N + 243))] [] m = some (.inl none, m) := by
  have q := y237 (sa := sa) (sv := sv) (d := d) h 6 41 (Or.inr (Or.inr ⟨rfl, rfl⟩))
  have q' : am_ca sa sv (d + 1) 237 [.ref (N + 243), .int (nI 41)] m = some (.inl (some (.int (nI 0))), m) := q
  rw [b351_0]
  simp (disch := omega) only [gq_true, gb_true, gb_false, true_and, and_true, eq_self, not_false_eq_true, not_true_eq_false, true_or, or_true, false_or, or_false, false_and, and_false, c0_v, ci_v, cl_v, cf_v, pk_mul, nI_add, nI_clamp, nI_lt0, nI_0le, nI_eq0, nI_lt0r, nI_ltE, nI_leE, nI_eqE, nI_m1, in_t, ba0, ba1, Nat.one_ne_zero, Nat.reduceEqDiff, Nat.reduceLeDiff, Nat.add_eq_zero_iff, xk243 h.1, q', gb_same]
theorem y351_0 (hT : Tk b n T) : ∀ (o i W : Nat) (C : List Ins) (m : am_M), i ≤ T → RQ m N b n (.inr i) → CdR m N C → C.length + o ≤ 2 * W → W ≤ 30 → o ≤ 2 → gi_ m (N + 243) 40 = nI W → gi_ m (N + 243) 41 = nI o → ∃ m', r351 sa sv (d + 3) 0 [some (.ref (N + 243))] [] m = some (.inl none, m') ∧ EnO N n i b s q m m' (sFx s q b n o W C i) := by
  intro o
  induction o with
  | zero =>
    intro i W C m hi h h0 hL hW ho h40 h41
    refine ⟨m, ?_, Fr.refl _ _, Or.inr ⟨0, W, C, i, h, h0, hL, hW, ho, h40, h41, fun z => by omega, by have := hT.1; omega, ⟨Nat.le_refl _, Or.inl rfl⟩, rfl⟩⟩
    rw [b351_0]
    simp (disch := omega) only [gq_true, gb_true, gb_false, true_and, and_true, eq_self, not_false_eq_true, not_true_eq_false, true_or, or_true, false_or, or_false, false_and, and_false, c0_v, ci_v, cl_v, cf_v, pk_mul, nI_add, nI_clamp, nI_lt0, nI_0le, nI_eq0, nI_lt0r, nI_ltE, nI_leE, nI_eqE, nI_m1, in_t, ba0, ba1, Nat.one_ne_zero, Nat.reduceEqDiff, Nat.reduceLeDiff, Nat.add_eq_zero_iff, xk243 h.1, h41, nI_le0, Nat.le_refl]
  | succ o ih =>
    intro i W C m hi h h0 hL hW ho h40 h41
    have hX := h.1
    have q := y237 (sa := sa) (sv := sv) (d := d + 2) h 6 41 (Or.inr (Or.inr ⟨rfl, rfl⟩))
    have no : (nI (o + 1) ≤ 0) = False := eq_false (fun z => by
      have := (nI_leI (a := o + 1) (b := 0) (by omega) (by omega)).mp z
      omega)
    by_cases k6 : Kd b n i = 6
    · have q' : am_ca sa sv (d + 3) 237 [.ref (N + 243), .int (nI 41)] m = some (.inl (some (.int (nI 1))), m) := by
        rw [q, show isK b n 6 (.inr i) = true from decide_eq_true k6]
        rfl
      have i9 := hT.2 i (by omega)
      have e41 : gi_ (si_ m (N + 243) 41 (nI o)) (N + 243) 39 = nI C.length := (if_neg (by omega)).trans h0.1
      have e39 : gi_ (si_ (si_ m (N + 243) 41 (nI o)) (N + 260) C.length (nI 6)) (N + 243) 39 = nI C.length := (if_neg (by omega)).trans e41
      have f1 : Fr (fun a k => (a = N + 243 ∧ (k = 39 ∨ k = 41)) ∨ (a = N + 260 ∧ k = C.length)) m (si_ (si_ (si_ m (N + 243) 41 (nI o)) (N + 260) C.length (nI 6)) (N + 243) 39 (nI (C.length + 1))) := (((Fr.refl _ _).si (Or.inl ⟨rfl, Or.inr rfl⟩)).si (Or.inr ⟨rfl, rfl⟩)).si (Or.inl ⟨rfl, Or.inl rfl⟩)
      have h1 := h.y f1 (fun a k z => by omega)
      have c1 : CdR (si_ (si_ (si_ m (N + 243) 41 (nI o)) (N + 260) C.length (nI 6)) (N + 243) 39 (nI (C.length + 1))) N (C ++ [(6, 0, 0)]) := h0.app (f1.mono fun a k z => by unfold PRy; omega) (fun a k z z2 => f1.2.1 _ _ (by omega)) (if_pos ⟨rfl, rfl⟩) ((if_neg (by omega)).trans (if_pos ⟨rfl, rfl⟩)) (fun _ z => absurd rfl z) (fun z => by
        have z' : (6 : Nat) = 23 ∨ (6 : Nat) = 25 ∨ (6 : Nat) = 8 := z
        omega)
      have g40 : gi_ (si_ (si_ (si_ m (N + 243) 41 (nI o)) (N + 260) C.length (nI 6)) (N + 243) 39 (nI (C.length + 1))) (N + 243) 40 = nI W := (f1.2.1 _ _ (by omega)).trans h40
      have g41 : gi_ (si_ (si_ (si_ m (N + 243) 41 (nI o)) (N + 260) C.length (nI 6)) (N + 243) 39 (nI (C.length + 1))) (N + 243) 41 = nI o := (if_neg (by omega)).trans ((if_neg (by omega)).trans (if_pos ⟨rfl, rfl⟩))
      generalize hm1 : si_ (si_ (si_ m (N + 243) 41 (nI o)) (N + 260) C.length (nI 6)) (N + 243) 39 (nI (C.length + 1)) = m1 at *
      obtain ⟨m2, a1, a2, a3⟩ := y233n (sa := sa) (sv := sv) (d := d + 1) h1
      obtain ⟨m3, b1, b2, b3⟩ := y238 (sa := sa) (sv := sv) (d := d) a3 4 59 (Or.inl ⟨rfl, rfl⟩)
      have fH : Fr (RH N) m1 m3 := a2.trans b2
      have c3 : CdR m3 N (C ++ [(6, 0, 0)]) := ⟨(fH.2.1 _ _ (by unfold RH; omega)).trans c1.1, fun k x hx => by
        obtain ⟨g0, g1, g2⟩ := c1.2 k x hx
        exact ⟨(fH.2.1 _ _ (by unfold RH; omega)).trans g0, fun z z2 => (fH.2.1 _ _ (by unfold RH; omega)).trans (g1 z z2), fun z => (fH.2.1 _ _ (by unfold RH; omega)).trans (g2 z)⟩⟩
      have k40 : gi_ m3 (N + 243) 40 = nI W := (fH.2.1 _ _ (by unfold RH; omega)).trans g40
      have k41 : gi_ m3 (N + 243) 41 = nI o := (fH.2.1 _ _ (by unfold RH; omega)).trans g41
      have f3 : Fr (PRy N) m m3 := (f1.mono fun a k z => by unfold PRy; omega).trans (fH.mono fun a k z => Or.inl z)
      have z260 : (N + 260 = 0) = False := eq_false (by omega)
      have run : ∀ r, r351 sa sv (d + 3) 0 [some (.ref (N + 243))] [] m3 = r → r351 sa sv (d + 3) 0 [some (.ref (N + 243))] [] m = r := fun r hr => by
        rw [b351_0]
        simp (disch := omega) only [gq_true, gb_true, gb_false, true_and, and_true, eq_self, not_false_eq_true, not_true_eq_false, true_or, or_true, false_or, or_false, false_and, and_false, c0_v, ci_v, cl_v, cf_v, pk_mul, nI_add, nI_clamp, nI_lt0, nI_0le, nI_eq0, nI_lt0r, nI_ltE, nI_leE, nI_eqE, nI_m1, in_t, ba0, ba1, Nat.one_ne_zero, Nat.reduceEqDiff, Nat.reduceLeDiff, Nat.add_eq_zero_iff, xk243 hX, h41, no, q', xr243_34 hX, xk260 hX, z260, nI_p1, e41, e39, hm1, a1, xk243 a3.1, b1]
        exact hr
      have hb : pst (eb (.inr (i + 1)) (sTake b n 4)) = if Kd b n (i + 1) = 4 then .inr (i + 2) else rr_ b n 1 (i + 1) := by
        show pst (sTake b n 4 (i + 1)) = _
        unfold sTake
        by_cases z : Kd b n (i + 1) = 4
        · rw [if_pos z, if_pos z]; rfl
        · rw [if_neg z, if_neg z]; rfl
      rw [hb] at b3
      rw [sFx_u (by have := hT.1; omega), if_pos ⟨by omega, k6⟩, Nat.add_sub_cancel]
      by_cases k4 : Kd b n (i + 1) = 4
      · rw [if_pos k4] at b3 ⊢
        have i10 := hT.2 (i + 1) (by omega)
        obtain ⟨m', g1, g2, g3⟩ := ih (i + 2) W (C ++ [(6, 0, 0)]) m3 (by omega) b3 c3 (by rw [List.length_append, List.length_singleton]; omega) hW (by omega) k40 k41
        refine ⟨m', run _ g1, f3.trans g2, ?_⟩
        rcases g3 with g3 | ⟨o', W', C', j, t1, t2, t3, t4, t5, t6, t7, t8, t9, t10, t11⟩
        · exact Or.inl g3
        · refine Or.inr ⟨o', W', C', j, t1, t2, t3, t4, t5, t6, t7, t8, t9, ⟨by omega, Or.inr ⟨by omega, ?_⟩⟩, t11⟩
          rcases t10.2 with z | z
          · rw [z]
            show ¬ Kd b n (i + 1) = 0
            omega
          · exact z.2
      · rw [if_neg k4] at b3 ⊢
        exact ⟨m3, run _ (y351_e b3), f3, Or.inl ⟨_, rfl, b3⟩⟩
    · have q' : am_ca sa sv (d + 3) 237 [.ref (N + 243), .int (nI 41)] m = some (.inl (some (.int (nI 0))), m) := by
        rw [q, show isK b n 6 (.inr i) = false from decide_eq_false k6]
        rfl
      refine ⟨m, ?_, Fr.refl _ _, Or.inr ⟨o + 1, W, C, i, h, h0, hL, hW, ho, h40, h41, fun z => k6 z.2, by have := hT.1; omega, ⟨Nat.le_refl _, Or.inl rfl⟩, rfl⟩⟩
      rw [b351_0]
      simp (disch := omega) only [gq_true, gb_true, gb_false, true_and, and_true, eq_self, not_false_eq_true, not_true_eq_false, true_or, or_true, false_or, or_false, false_and, and_false, c0_v, ci_v, cl_v, cf_v, pk_mul, nI_add, nI_clamp, nI_lt0, nI_0le, nI_eq0, nI_lt0r, nI_ltE, nI_leE, nI_eqE, nI_m1, in_t, ba0, ba1, Nat.one_ne_zero, Nat.reduceEqDiff, Nat.reduceLeDiff, Nat.add_eq_zero_iff, xk243 hX, h41, no, q']
end R89
