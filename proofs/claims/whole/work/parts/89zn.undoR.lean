/-! undo, save, restore, what was told: the reference -/
section R89
variable {sa sv d N n B u : Nat} {X : TX} {m m' : am_M} {s s' : Nat → Int32} {q q' : Nat → Int64}
theorem RU.k {a k : Nat} (h : RU N a k) : KR N a k := ⟨by unfold RU at h; omega, by unfold RU at h; omega, h.x⟩
theorem RV.k {a k : Nat} (h : RV N a k) : KR N a k := ⟨by unfold RV at h; omega, by unfold RV at h; omega, h.x⟩
theorem y252n (h : TR m N X) (hu5 : X.u ≤ 5) : RN m N (unX X) (unV X) (am_ca sa sv (d + 1) 252 [.ref (N + 243)] m) := by
  unfold unX unV
  by_cases e : X.u = 0
  · rw [if_pos e, if_pos e]
    exact ⟨_, KR.c0 m N _, h.c0 _, y252_0 h.x (by rw [h.u, e])⟩
  · rw [if_neg e, if_neg e]
    obtain ⟨v, hv⟩ : ∃ v, X.u = v + 1 := ⟨X.u - 1, by omega⟩
    obtain ⟨m', a1, a2, a3, a4, a5⟩ := y252 (sa := sa) (sv := sv) (d := d) h.x v (by omega) (by rw [h.u, hv])
    have hi : ∀ a k, ¬ RU N a k → gi_ m' a k = gi_ m a k := fun a k z => a2.2.1 a k z
    have hl : ∀ a k, ¬ RU N a k → gl_ m' a k = gl_ m a k := fun a k z => a2.2.2.1 a k z
    obtain ⟨c, e1, e2, e3⟩ := h.h
    have hu : X.u - 1 = v := by omega
    rw [hu]
    refine ⟨m', a2.mono fun a k z => z.k, ⟨h.x.frg a2 (fun a k z => z.x), fun k z => ?_, fun k z => ?_, (hi _ _ (by unfold RU; omega)).trans h.n, fun k z => (hi _ _ (by unfold RU; omega)).trans (h.b k z), a3, fun i k z z2 => (hi _ _ (by unfold RU; omega)).trans (h.ps i k (by have : i < v := z; omega) z2), fun i k z z2 => (hl _ _ (by unfold RU; omega)).trans (h.pq i k (by have : i < v := z; omega) z2), (hi _ _ (by unfold RU; omega)).trans h.v, fun z k z2 => (hi _ _ (by unfold RU; omega)).trans (h.ss z k z2), fun z k z2 => (hl _ _ (by unfold RU; omega)).trans (h.sq z k z2), (hi _ _ (by unfold RU; omega)).trans h.e1, (hi _ _ (by unfold RU; omega)).trans h.e2, (hi _ _ (by unfold RU; omega)).trans h.e3, (hi _ _ (by unfold RU; omega)).trans h.r, ⟨c, e1, (hi _ _ (by unfold RU; omega)).trans e2, e3⟩, fun k z => (hi _ _ (by unfold RU; omega)).trans (h.rb k z)⟩, a1⟩
    · rw [a4 k, if_pos z]
      exact h.ps v k (by omega) z
    · rw [a5 k, if_pos z]
      exact h.pq v k (by omega) z
theorem y253n (h : TR m N X) : RN m N (saX X) (X.s 4) (am_ca sa sv (d + 1) 253 [.ref (N + 243)] m) := by
  obtain ⟨m', a1, a2, a3, a4, a5⟩ := y253 (sa := sa) (sv := sv) (d := d) h.x
  have hi : ∀ a k, ¬ RV N a k → gi_ m' a k = gi_ m a k := fun a k z => a2.2.1 a k z
  have hl : ∀ a k, ¬ RV N a k → gl_ m' a k = gl_ m a k := fun a k z => a2.2.2.1 a k z
  obtain ⟨c, e1, e2, e3⟩ := h.h
  rw [h.s 4 (by omega)] at a1
  exact ⟨m', a2.mono fun a k z => z.k, ⟨h.x.frg a2 (fun a k z => z.x), fun k z => (hi _ _ (by unfold RV; omega)).trans (h.s k z), fun k z => (hl _ _ (by unfold RV; omega)).trans (h.q k z), (hi _ _ (by unfold RV; omega)).trans h.n, fun k z => (hi _ _ (by unfold RV; omega)).trans (h.b k z), (hi _ _ (by unfold RV; omega)).trans h.u, fun i k z z2 => (hi _ _ (by unfold RV; omega)).trans (h.ps i k z z2), fun i k z z2 => (hl _ _ (by unfold RV; omega)).trans (h.pq i k z z2), a3, fun z k z2 => (a4 k z2).trans (h.s k z2), fun z k z2 => (a5 k z2).trans (h.q k z2), (hi _ _ (by unfold RV; omega)).trans h.e1, (hi _ _ (by unfold RV; omega)).trans h.e2, (hi _ _ (by unfold RV; omega)).trans h.e3, (hi _ _ (by unfold RV; omega)).trans h.r, ⟨c, e1, (hi _ _ (by unfold RV; omega)).trans e2, e3⟩, fun k z => (hi _ _ (by unfold RV; omega)).trans (h.rb k z)⟩, a1⟩
theorem y254n (h : TR m N X) (hv1 : X.v ≤ 1) : RI m N (reX X) (if X.v = 1 then 0 else 1) (reV X) (am_ca sa sv (d + 3) 254 [.ref (N + 243)] m) := by
  unfold reX
  by_cases e : X.v = 1
  · rw [if_pos e, if_pos e]
    obtain ⟨m', a1, a2, a3, a4, a5, a6⟩ := y254 (sa := sa) (sv := sv) (d := d) h.x (by rw [h.v, e])
    have hi : ∀ a k, ¬ RU N a k → gi_ m' a k = gi_ m a k := fun a k z => a2.2.1 a k z
    have hl : ∀ a k, ¬ RU N a k → gl_ m' a k = gl_ m a k := fun a k z => a2.2.2.1 a k z
    obtain ⟨c, e1, e2, e3⟩ := h.h
    refine ⟨m', _, a2.mono fun a k z => z.k, ⟨h.x.frg a2 (fun a k z => z.x), fun k z => ?_, fun k z => ?_, (hi _ _ (by unfold RU; omega)).trans h.n, fun k z => (hi _ _ (by unfold RU; omega)).trans (h.b k z), a3, fun i k z z2 => absurd z (Nat.not_lt_zero _), fun i k z z2 => absurd z (Nat.not_lt_zero _), (hi _ _ (by unfold RU; omega)).trans h.v, fun z k z2 => (hi _ _ (by unfold RU; omega)).trans (h.ss z k z2), fun z k z2 => (hl _ _ (by unfold RU; omega)).trans (h.sq z k z2), (hi _ _ (by unfold RU; omega)).trans h.e1, (hi _ _ (by unfold RU; omega)).trans h.e2, (hi _ _ (by unfold RU; omega)).trans h.e3, (hi _ _ (by unfold RU; omega)).trans h.r, ⟨c, e1, (hi _ _ (by unfold RU; omega)).trans e2, e3⟩, fun k z => (hi _ _ (by unfold RU; omega)).trans (h.rb k z)⟩, a1, a4, fun _ => h.ss e 4 (by omega)⟩
    · rw [a5 k, if_pos z]
      exact h.ss e k z
    · rw [a6 k, if_pos z]
      exact h.sq e k z
  · rw [if_neg e, if_neg e]
    refine RI.no h 1 (by omega) _ ?_
    have q0 := y225_0 (sa := sa) (sv := sv) (d := d) (m := m) (N := N) (s := gi_ m (N + 245)) (q := gl_ m (N + 249)) ⟨h.x, rfl, rfl⟩
    rw [c254, b254_0]
    simp (disch := omega) only [gq_true, gb_true, gb_false, true_and, and_true, eq_self, not_false_eq_true, not_true_eq_false, true_or, or_true, false_or, or_false, false_and, and_false, c0_v, ci_v, cl_v, cf_v, pk_mul, nI_add, nI_clamp, nI_lt0, nI_0le, nI_eq0, nI_lt0r, nI_ltE, nI_leE, nI_eqE, nI_m1, in_t, ba0, ba1, Nat.one_ne_zero, Nat.reduceEqDiff, Nat.reduceLeDiff, Nat.add_eq_zero_iff, xk243 h.x, h.v, show X.v = 0 by omega, q0]
theorem y245n (h : TR m N X) : RN m N X X.e1 (am_ca sa sv (d + 1) 245 [.ref (N + 243)] m) := ⟨_, KR.c0 m N (nI 0), h.c0 (nI 0), by
  have e : gi_ (si_ m (N + 243) 0 (nI 0)) (N + 243) 11 = X.e1 := (if_neg (by omega)).trans h.e1
  rw [c245, b245_0]
  simp (disch := omega) only [gq_true, gb_true, gb_false, true_and, and_true, eq_self, not_false_eq_true, not_true_eq_false, true_or, or_true, false_or, or_false, false_and, and_false, c0_v, ci_v, cl_v, cf_v, pk_mul, nI_add, nI_clamp, nI_lt0, nI_0le, nI_eq0, nI_lt0r, nI_ltE, nI_leE, nI_eqE, nI_m1, in_t, ba0, ba1, Nat.one_ne_zero, Nat.reduceEqDiff, Nat.reduceLeDiff, Nat.add_eq_zero_iff, xk243 h.x, e]⟩
theorem y246n (h : TR m N X) : RN m N X X.e2 (am_ca sa sv (d + 1) 246 [.ref (N + 243)] m) := ⟨_, KR.c0 m N (nI 0), h.c0 (nI 0), by
  have e : gi_ (si_ m (N + 243) 0 (nI 0)) (N + 243) 12 = X.e2 := (if_neg (by omega)).trans h.e2
  rw [c246, b246_0]
  simp (disch := omega) only [gq_true, gb_true, gb_false, true_and, and_true, eq_self, not_false_eq_true, not_true_eq_false, true_or, or_true, false_or, or_false, false_and, and_false, c0_v, ci_v, cl_v, cf_v, pk_mul, nI_add, nI_clamp, nI_lt0, nI_0le, nI_eq0, nI_lt0r, nI_ltE, nI_leE, nI_eqE, nI_m1, in_t, ba0, ba1, Nat.one_ne_zero, Nat.reduceEqDiff, Nat.reduceLeDiff, Nat.add_eq_zero_iff, xk243 h.x, e]⟩
theorem y247n (h : TR m N X) : RN m N X X.e3 (am_ca sa sv (d + 1) 247 [.ref (N + 243)] m) := ⟨_, KR.c0 m N (nI 0), h.c0 (nI 0), by
  have e : gi_ (si_ m (N + 243) 0 (nI 0)) (N + 243) 13 = X.e3 := (if_neg (by omega)).trans h.e3
  rw [c247, b247_0]
  simp (disch := omega) only [gq_true, gb_true, gb_false, true_and, and_true, eq_self, not_false_eq_true, not_true_eq_false, true_or, or_true, false_or, or_false, false_and, and_false, c0_v, ci_v, cl_v, cf_v, pk_mul, nI_add, nI_clamp, nI_lt0, nI_0le, nI_eq0, nI_lt0r, nI_ltE, nI_leE, nI_eqE, nI_m1, in_t, ba0, ba1, Nat.one_ne_zero, Nat.reduceEqDiff, Nat.reduceLeDiff, Nat.add_eq_zero_iff, xk243 h.x, e]⟩
end R89
