/-! a statement is read: the reference -/
def RT2 (m : am_M) (N : Nat) (b : Nat → Nat) (n : Nat) (z : Er ⊕ (Nat × ((Nat → Int32) × (Nat → Int64)))) : Prop := match z with
  | .inl e => RQ m N b n (.inl e)
  | .inr x => RQ m N b n (.inr x.1) ∧ RS m N x.2.1 x.2.2
section R89
variable {sa sv d N T n i B : Nat} {m : am_M} {b : Nat → Nat} {s s' : Nat → Int32} {q q' : Nat → Int64} {σ : Er ⊕ Nat}
theorem RT.tl {z : Er ⊕ (Nat × ((Nat → Int32) × (Nat → Int64)))} {C : Option am_R} (hc : ∃ m', C = some (.inl none, m') ∧ Fr (RWr N) m m' ∧ RT m' N b n z) : ∃ m', am_c0 C (fun m1 => gq_ (gk_ m1 (N + 243) = (1, 11)) (am_ci (am_ca sa sv (d + 6) 235 [.ref (N + 243)] m1) (fun v m2 => gb_ (v = 0) (some (.inl none, m2)) (gq_ (gk_ m2 (N + 243) = (1, 11)) (am_c0 (am_ca sa sv (d + 6) 233 [.ref (N + 243)] m2) (fun m3 => some (.inl none, m3)) am_xg))) am_xg)) am_xg = some (.inl none, m') ∧ Fr (RWr N) m m' ∧ RT2 m' N b n z := by
  obtain ⟨m1, g1, g2, g3⟩ := hc
  cases z with
  | inl e =>
    have g3' : RQ m1 N b n (.inl e) := g3
    have q1 := y235 (sa := sa) (sv := sv) (d := d + 5) g3'
    rw [gs_l, tr_f] at q1
    refine ⟨m1, ?_, g2, g3'⟩
    rw [g1]
    simp (disch := omega) only [gq_true, gb_true, gb_false, true_and, and_true, eq_self, not_false_eq_true, not_true_eq_false, true_or, or_true, false_or, or_false, false_and, and_false, c0_v, ci_v, cl_v, cf_v, pk_mul, nI_add, nI_clamp, nI_lt0, nI_0le, nI_eq0, nI_lt0r, nI_ltE, nI_leE, nI_eqE, nI_m1, in_t, ba0, ba1, Nat.one_ne_zero, Nat.reduceEqDiff, Nat.reduceLeDiff, Nat.add_eq_zero_iff, xk243 g3'.1, q1]
  | inr x =>
    obtain ⟨j, k1, k2, k3⟩ := g3
    have q1 := y235 (sa := sa) (sv := sv) (d := d + 5) k2
    rw [gs_r, tr_t] at q1
    obtain ⟨m2, u1, u2, u3⟩ := y233n (sa := sa) (sv := sv) (d := d + 4) k2
    refine ⟨m2, ?_, g2.trans (u2.mono fun _ _ z => Or.inl z.sh), by rw [k1]; exact u3, k3.h u2⟩
    rw [g1]
    simp (disch := omega) only [gq_true, gb_true, gb_false, true_and, and_true, eq_self, not_false_eq_true, not_true_eq_false, true_or, or_true, false_or, or_false, false_and, and_false, c0_v, ci_v, cl_v, cf_v, pk_mul, nI_add, nI_clamp, nI_lt0, nI_0le, nI_eq0, nI_lt0r, nI_ltE, nI_leE, nI_eqE, nI_m1, in_t, ba0, ba1, Nat.one_ne_zero, Nat.reduceEqDiff, Nat.reduceLeDiff, Nat.add_eq_zero_iff, xk243 k2.1, q1, u1]
theorem y281 (h : RQ m N b n (.inr i)) (hR : RS m N s q) (hG : WG B s q) (hk : ¬ Kd b n i = 0) : ∃ m', am_ca sa sv (d + 7) 281 [.ref (N + 243)] m = some (.inl none, m') ∧ Fr (RWr N) m m' ∧ RT2 m' N b n (sST s q b n i) := by
  have iy : ∀ k, k < 21 → Kd b n i = 7 + k → am_ca sa sv (d + 6) 236 [.ref (N + 243), .long (qi_ k)] m = some (.inl (some (.int (nI 1))), m) := fun k hk e => by
    have := y236 (sa := sa) (sv := sv) (d := d + 5) h k hk
    rwa [show isK b n (7 + k) (.inr i) = true from decide_eq_true e] at this
  have iz : ∀ k, k < 21 → ¬ Kd b n i = 7 + k → am_ca sa sv (d + 6) 236 [.ref (N + 243), .long (qi_ k)] m = some (.inl (some (.int (nI 0))), m) := fun k hk e => by
    have := y236 (sa := sa) (sv := sv) (d := d + 5) h k hk
    rwa [show isK b n (7 + k) (.inr i) = false from decide_eq_false e] at this
  by_cases e7 : Kd b n i = 7
  · have j7 : am_ca sa sv (d + 6) 236 [.ref (N + 243), .long (16835749 : Int64)] m = some (.inl (some (.int (nI 1))), m) := iy 0 (by decide) e7
    obtain ⟨m', g1, g2, g3⟩ := RT.tl (sa := sa) (sv := sv) (d := d) (y271 (sa := sa) (sv := sv) (d := d + 2) h hR hG (by omega))
    refine ⟨m', ?_, g2, by rw [sST_7 e7]; exact g3⟩
    rw [c281, b281_0]
    simp (disch := omega) only [gq_true, gb_true, gb_false, true_and, and_true, eq_self, not_false_eq_true, not_true_eq_false, true_or, or_true, false_or, or_false, false_and, and_false, c0_v, ci_v, cl_v, cf_v, pk_mul, nI_add, nI_clamp, nI_lt0, nI_0le, nI_eq0, nI_lt0r, nI_ltE, nI_leE, nI_eqE, nI_m1, in_t, ba0, ba1, Nat.one_ne_zero, Nat.reduceEqDiff, Nat.reduceLeDiff, Nat.add_eq_zero_iff, xk243 h.1, j7]
    exact g1
  have j7 : am_ca sa sv (d + 6) 236 [.ref (N + 243), .long (16835749 : Int64)] m = some (.inl (some (.int (nI 0))), m) := iz 0 (by decide) e7
  by_cases e9 : Kd b n i = 9
  · have j9 : am_ca sa sv (d + 6) 236 [.ref (N + 243), .long (769611 : Int64)] m = some (.inl (some (.int (nI 1))), m) := iy 2 (by decide) e9
    have j10 : am_ca sa sv (d + 6) 236 [.ref (N + 243), .long (3659954 : Int64)] m = some (.inl (some (.int (nI 0))), m) := iz 3 (by decide) (by omega)
    obtain ⟨m', g1, g2, g3⟩ := RT.tl (sa := sa) (sv := sv) (d := d) (y272w (sa := sa) (sv := sv) (d := d) h hR hG (by omega))
    refine ⟨m', ?_, g2, by rw [sST_9 e9]; exact g3⟩
    rw [c281, b281_0]
    simp (disch := omega) only [gq_true, gb_true, gb_false, true_and, and_true, eq_self, not_false_eq_true, not_true_eq_false, true_or, or_true, false_or, or_false, false_and, and_false, c0_v, ci_v, cl_v, cf_v, pk_mul, nI_add, nI_clamp, nI_lt0, nI_0le, nI_eq0, nI_lt0r, nI_ltE, nI_leE, nI_eqE, nI_m1, in_t, ba0, ba1, Nat.one_ne_zero, Nat.reduceEqDiff, Nat.reduceLeDiff, Nat.add_eq_zero_iff, xk243 h.1, j7, j9]
    rw [b281_37]
    simp (disch := omega) only [gq_true, gb_true, gb_false, true_and, and_true, eq_self, not_false_eq_true, not_true_eq_false, true_or, or_true, false_or, or_false, false_and, and_false, c0_v, ci_v, cl_v, cf_v, pk_mul, nI_add, nI_clamp, nI_lt0, nI_0le, nI_eq0, nI_lt0r, nI_ltE, nI_leE, nI_eqE, nI_m1, in_t, ba0, ba1, Nat.one_ne_zero, Nat.reduceEqDiff, Nat.reduceLeDiff, Nat.add_eq_zero_iff, xk243 h.1, j9, j10]
    exact g1
  have j9 : am_ca sa sv (d + 6) 236 [.ref (N + 243), .long (769611 : Int64)] m = some (.inl (some (.int (nI 0))), m) := iz 2 (by decide) e9
  by_cases e10 : Kd b n i = 10
  · have j10 : am_ca sa sv (d + 6) 236 [.ref (N + 243), .long (3659954 : Int64)] m = some (.inl (some (.int (nI 1))), m) := iy 3 (by decide) e10
    obtain ⟨m', g1, g2, g3⟩ := RT.tl (sa := sa) (sv := sv) (d := d) (y272c (sa := sa) (sv := sv) (d := d) h hR hG (by omega))
    refine ⟨m', ?_, g2, by rw [sST_10 e10]; exact g3⟩
    rw [c281, b281_0]
    simp (disch := omega) only [gq_true, gb_true, gb_false, true_and, and_true, eq_self, not_false_eq_true, not_true_eq_false, true_or, or_true, false_or, or_false, false_and, and_false, c0_v, ci_v, cl_v, cf_v, pk_mul, nI_add, nI_clamp, nI_lt0, nI_0le, nI_eq0, nI_lt0r, nI_ltE, nI_leE, nI_eqE, nI_m1, in_t, ba0, ba1, Nat.one_ne_zero, Nat.reduceEqDiff, Nat.reduceLeDiff, Nat.add_eq_zero_iff, xk243 h.1, j7, j9, j10]
    rw [b281_37]
    simp (disch := omega) only [gq_true, gb_true, gb_false, true_and, and_true, eq_self, not_false_eq_true, not_true_eq_false, true_or, or_true, false_or, or_false, false_and, and_false, c0_v, ci_v, cl_v, cf_v, pk_mul, nI_add, nI_clamp, nI_lt0, nI_0le, nI_eq0, nI_lt0r, nI_ltE, nI_leE, nI_eqE, nI_m1, in_t, ba0, ba1, Nat.one_ne_zero, Nat.reduceEqDiff, Nat.reduceLeDiff, Nat.add_eq_zero_iff, xk243 h.1, j10]
    exact g1
  have j10 : am_ca sa sv (d + 6) 236 [.ref (N + 243), .long (3659954 : Int64)] m = some (.inl (some (.int (nI 0))), m) := iz 3 (by decide) e10
  by_cases e12 : Kd b n i = 12
  · have j12 : am_ca sa sv (d + 6) 236 [.ref (N + 243), .long (639025541 : Int64)] m = some (.inl (some (.int (nI 1))), m) := iy 5 (by decide) e12
    obtain ⟨m', g1, g2, g3⟩ := RT.tl (sa := sa) (sv := sv) (d := d) (y274 (sa := sa) (sv := sv) (d := d + 2) h hR hG)
    refine ⟨m', ?_, g2, by rw [sST_12 e12]; exact g3⟩
    rw [c281, b281_0]
    simp (disch := omega) only [gq_true, gb_true, gb_false, true_and, and_true, eq_self, not_false_eq_true, not_true_eq_false, true_or, or_true, false_or, or_false, false_and, and_false, c0_v, ci_v, cl_v, cf_v, pk_mul, nI_add, nI_clamp, nI_lt0, nI_0le, nI_eq0, nI_lt0r, nI_ltE, nI_leE, nI_eqE, nI_m1, in_t, ba0, ba1, Nat.one_ne_zero, Nat.reduceEqDiff, Nat.reduceLeDiff, Nat.add_eq_zero_iff, xk243 h.1, j7, j9, j10, j12]
    exact g1
  have j12 : am_ca sa sv (d + 6) 236 [.ref (N + 243), .long (639025541 : Int64)] m = some (.inl (some (.int (nI 0))), m) := iz 5 (by decide) e12
  by_cases e14 : Kd b n i = 14
  · have j14 : am_ca sa sv (d + 6) 236 [.ref (N + 243), .long (20459828 : Int64)] m = some (.inl (some (.int (nI 1))), m) := iy 7 (by decide) e14
    obtain ⟨m', g1, g2, g3⟩ := RT.tl (sa := sa) (sv := sv) (d := d) (y275 (sa := sa) (sv := sv) (d := d) h hR hG)
    refine ⟨m', ?_, g2, by rw [sST_14 e14]; exact g3⟩
    rw [c281, b281_0]
    simp (disch := omega) only [gq_true, gb_true, gb_false, true_and, and_true, eq_self, not_false_eq_true, not_true_eq_false, true_or, or_true, false_or, or_false, false_and, and_false, c0_v, ci_v, cl_v, cf_v, pk_mul, nI_add, nI_clamp, nI_lt0, nI_0le, nI_eq0, nI_lt0r, nI_ltE, nI_leE, nI_eqE, nI_m1, in_t, ba0, ba1, Nat.one_ne_zero, Nat.reduceEqDiff, Nat.reduceLeDiff, Nat.add_eq_zero_iff, xk243 h.1, j7, j9, j10, j12, j14]
    exact g1
  have j14 : am_ca sa sv (d + 6) 236 [.ref (N + 243), .long (20459828 : Int64)] m = some (.inl (some (.int (nI 0))), m) := iz 7 (by decide) e14
  by_cases e16 : Kd b n i = 16
  · have j16 : am_ca sa sv (d + 6) 236 [.ref (N + 243), .long (54109422 : Int64)] m = some (.inl (some (.int (nI 1))), m) := iy 9 (by decide) e16
    obtain ⟨m', g1, g2, g3⟩ := RT.tl (sa := sa) (sv := sv) (d := d) (y279 (sa := sa) (sv := sv) (d := d + 1) h hR hG (by omega))
    refine ⟨m', ?_, g2, by rw [sST_16 e16]; exact g3⟩
    rw [c281, b281_0]
    simp (disch := omega) only [gq_true, gb_true, gb_false, true_and, and_true, eq_self, not_false_eq_true, not_true_eq_false, true_or, or_true, false_or, or_false, false_and, and_false, c0_v, ci_v, cl_v, cf_v, pk_mul, nI_add, nI_clamp, nI_lt0, nI_0le, nI_eq0, nI_lt0r, nI_ltE, nI_leE, nI_eqE, nI_m1, in_t, ba0, ba1, Nat.one_ne_zero, Nat.reduceEqDiff, Nat.reduceLeDiff, Nat.add_eq_zero_iff, xk243 h.1, j7, j9, j10, j12, j14, j16]
    exact g1
  have j16 : am_ca sa sv (d + 6) 236 [.ref (N + 243), .long (54109422 : Int64)] m = some (.inl (some (.int (nI 0))), m) := iz 9 (by decide) e16
  by_cases e19 : Kd b n i = 19
  · have j19 : am_ca sa sv (d + 6) 236 [.ref (N + 243), .long (1231075429 : Int64)] m = some (.inl (some (.int (nI 1))), m) := iy 12 (by decide) e19
    obtain ⟨m', g1, g2, g3⟩ := RT.tl (sa := sa) (sv := sv) (d := d) (y280 (sa := sa) (sv := sv) (d := d + 2) h hR hG (by omega))
    refine ⟨m', ?_, g2, by rw [sST_19 e19]; exact g3⟩
    rw [c281, b281_0]
    simp (disch := omega) only [gq_true, gb_true, gb_false, true_and, and_true, eq_self, not_false_eq_true, not_true_eq_false, true_or, or_true, false_or, or_false, false_and, and_false, c0_v, ci_v, cl_v, cf_v, pk_mul, nI_add, nI_clamp, nI_lt0, nI_0le, nI_eq0, nI_lt0r, nI_ltE, nI_leE, nI_eqE, nI_m1, in_t, ba0, ba1, Nat.one_ne_zero, Nat.reduceEqDiff, Nat.reduceLeDiff, Nat.add_eq_zero_iff, xk243 h.1, j7, j9, j10, j12, j14, j16, j19]
    exact g1
  have j19 : am_ca sa sv (d + 6) 236 [.ref (N + 243), .long (1231075429 : Int64)] m = some (.inl (some (.int (nI 0))), m) := iz 12 (by decide) e19
  obtain ⟨m', g1, g2, g3⟩ := y234 (sa := sa) (sv := sv) (d := d + 5) h 1 (by decide) (by decide) (fun _ => rfl)
  have q1 := y235 (sa := sa) (sv := sv) (d := d + 5) g3
  rw [gs_l, tr_f] at q1
  refine ⟨m', ?_, g2.mono fun _ _ z => Or.inl z.sh, ?_⟩
  · rw [c281, b281_0]
    simp (disch := omega) only [gq_true, gb_true, gb_false, true_and, and_true, eq_self, not_false_eq_true, not_true_eq_false, true_or, or_true, false_or, or_false, false_and, and_false, c0_v, ci_v, cl_v, cf_v, pk_mul, nI_add, nI_clamp, nI_lt0, nI_0le, nI_eq0, nI_lt0r, nI_ltE, nI_leE, nI_eqE, nI_m1, in_t, ba0, ba1, Nat.one_ne_zero, Nat.reduceEqDiff, Nat.reduceLeDiff, Nat.add_eq_zero_iff, xk243 h.1, j7, j9, j10, j12, j14, j16, j19, g1, xk243 g3.1, q1]
  · have : sST s q b n i = rr_ b n 1 i := by
      unfold sST
      rw [if_neg e7, if_neg e9, if_neg e10, if_neg e12, if_neg e14, if_neg e16, if_neg e19]
    rw [this]
    exact g3
end R89
