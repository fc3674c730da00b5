/-! the statements one by one: the reference -/
section R89
variable {sa sv d N T n B : Nat} {b : Nat → Nat}
theorem y282_2 : ∀ (f c i : Nat) (m : am_M) (s : Nat → Int32) (q : Nat → Int64), RQ m N b n (.inr i) → RS m N s q → WG B s q → match sLp b n f c i s q with
    | .inl e => ∃ m' v, r282 sa sv (d + 7) 2 [some (.ref (N + 243)), some (.int (nI c))] [] m = some (.inl (some (.int v)), m') ∧ Fr (RWr N) m m' ∧ RQ m' N b n (.inl e)
    | .inr x => Kd b n x.1 = 0 → ∃ m', r282 sa sv (d + 7) 2 [some (.ref (N + 243)), some (.int (nI c))] [] m = some (.inl (some (.int (nI x.2.1))), m') ∧ Fr (RWr N) m m' ∧ RQ m' N b n (.inr x.1) ∧ RS m' N x.2.2.1 x.2.2.2 := by
  have stop : ∀ (c i : Nat) (m : am_M), RQ m N b n (.inr i) → Kd b n i = 0 → r282 sa sv (d + 7) 2 [some (.ref (N + 243)), some (.int (nI c))] [] m = some (.inl (some (.int (nI c))), m) := fun c i m h e => by
    have q1 := y235 (sa := sa) (sv := sv) (d := d + 6) h
    rw [gs_r, tr_t] at q1
    have k6 : gi_ m (N + 243) 6 = nI (srt (Kd b n i)) := h.2.2.2.2.2.2.2.1
    rw [e, show srt 0 = 0 from rfl] at k6
    rw [b282_2]
    simp (disch := omega) only [gq_true, gb_true, gb_false, true_and, and_true, eq_self, not_false_eq_true, not_true_eq_false, true_or, or_true, false_or, or_false, false_and, and_false, c0_v, ci_v, cl_v, cf_v, pk_mul, nI_add, nI_clamp, nI_lt0, nI_0le, nI_eq0, nI_lt0r, nI_ltE, nI_leE, nI_eqE, nI_m1, in_t, ba0, ba1, Nat.one_ne_zero, Nat.reduceEqDiff, Nat.reduceLeDiff, Nat.add_eq_zero_iff, xk243 h.1, q1, k6]
  intro f
  induction f with
  | zero =>
    intro c i m s q h hR hG
    show Kd b n i = 0 → _
    intro e
    exact ⟨m, stop c i m h e, Fr.refl _ _, h, hR⟩
  | succ f ih =>
    intro c i m s q h hR hG
    unfold sLp
    by_cases e : Kd b n i = 0
    · rw [if_pos e]
      exact fun _ => ⟨m, stop c i m h e, Fr.refl _ _, h, hR⟩
    · rw [if_neg e]
      have q1 := y235 (sa := sa) (sv := sv) (d := d + 6) h
      rw [gs_r, tr_t] at q1
      have k6 : gi_ m (N + 243) 6 = nI (srt (Kd b n i)) := h.2.2.2.2.2.2.2.1
      have hs : srt (Kd b n i) < 5 ∧ ¬ srt (Kd b n i) = 0 := by
        unfold srt
        rw [if_neg e]
        repeat' split
        all_goals omega
      obtain ⟨m1, g1, g2, g3⟩ := y281 (sa := sa) (sv := sv) (d := d) h hR hG e
      have run : ∀ r, XS m1 N → r282 sa sv (d + 7) 2 [some (.ref (N + 243)), some (.int (nI (c + 1)))] [] m1 = r → r282 sa sv (d + 7) 2 [some (.ref (N + 243)), some (.int (nI c))] [] m = r := fun r hX hr => by
        rw [b282_2]
        simp (disch := omega) only [gq_true, gb_true, gb_false, true_and, and_true, eq_self, not_false_eq_true, not_true_eq_false, true_or, or_true, false_or, or_false, false_and, and_false, c0_v, ci_v, cl_v, cf_v, pk_mul, nI_add, nI_clamp, nI_lt0, nI_0le, nI_eq0, nI_lt0r, nI_ltE, nI_leE, nI_eqE, nI_m1, in_t, ba0, ba1, Nat.one_ne_zero, Nat.reduceEqDiff, Nat.reduceLeDiff, Nat.add_eq_zero_iff, xk243 h.1, q1, k6, eq_false hs.2, g1]
        exact hr
      cases z : sST s q b n i with
      | inl er =>
        rw [z] at g3
        have g3' : RQ m1 N b n (.inl er) := g3
        have q2 := y235 (sa := sa) (sv := sv) (d := d + 6) g3'
        rw [gs_l, tr_f] at q2
        refine ⟨m1, nI (c + 1), run _ g3'.1 ?_, g2, g3'⟩
        rw [b282_2]
        simp (disch := omega) only [gq_true, gb_true, gb_false, true_and, and_true, eq_self, not_false_eq_true, not_true_eq_false, true_or, or_true, false_or, or_false, false_and, and_false, c0_v, ci_v, cl_v, cf_v, pk_mul, nI_add, nI_clamp, nI_lt0, nI_0le, nI_eq0, nI_lt0r, nI_ltE, nI_leE, nI_eqE, nI_m1, in_t, ba0, ba1, Nat.one_ne_zero, Nat.reduceEqDiff, Nat.reduceLeDiff, Nat.add_eq_zero_iff, xk243 g3'.1, q2]
      | inr x =>
        rw [z] at g3
        obtain ⟨g3', hR1⟩ := g3
        have := ih (c + 1) x.1 m1 x.2.1 x.2.2 g3' hR1 (sST_WG hG z)
        show match sLp b n f (c + 1) x.1 x.2.1 x.2.2 with | .inl e => _ | .inr x => _
        cases z2 : sLp b n f (c + 1) x.1 x.2.1 x.2.2 with
        | inl er =>
          rw [z2] at this
          obtain ⟨m2, v, k1, k2, k3⟩ := this
          exact ⟨m2, v, run _ g3'.1 k1, g2.trans k2, k3⟩
        | inr y =>
          rw [z2] at this
          intro e2
          obtain ⟨m2, k1, k2, k3, k4⟩ := this e2
          exact ⟨m2, run _ g3'.1 k1, g2.trans k2, k3, k4⟩
end R89
