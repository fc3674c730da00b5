/-! texts: the class's tokens, the reference's begin and end -/
section I89
variable {sa sv d N n B : Nat} {X X' : TX} {m m' : am_M} {f : Nat → Nat} {P : Nat → Nat → Prop}
def P157 (N a k : Nat) : Prop := PB N a k ∨ (a = N ∧ k = 1)
def X157 (X : TX) : TX := (X.wB X.b 0).wE (nI 0) (-1) (nI 0)
theorem P157.x {a k : Nat} (h : P157 N a k) : XF N a k ∧ (a = N + 4 ∨ a = N + 5 ∨ a = N + 6 ∨ (a = N + 2 ∧ 4 ≤ k) ∨ (a = N ∧ k = 1)) := by
  rcases h with h | h
  · exact ⟨h.x, by unfold PB at h; omega⟩
  · exact ⟨XF.a0 h.1 (by omega), by omega⟩
theorem TF.fr {X : TX} (h : TF m N f X) (hu : X.u ≤ 5) (hf : Fr P m m') (hp : ∀ a k, P a k → ¬ (a = N ∧ (k = 12 ∨ k = 13)) ∧ ¬ a = N + 26 ∧ (a < N + 27 ∨ N + 243 ≤ a ∨ OA (oa N (f 6)) a)) : TF m' N f X := by
  obtain ⟨f1, f2, f3, f4, f5, f6, f7⟩ := h
  have no : ∀ j, j < 8 → ¬ j = 6 → ∀ a k, oa N (f j) ≤ a → a < oa N (f j) + 27 → ¬ P a k := fun j hj e a k z1 z2 z => by
    have h1 := oa_lo N (f j)
    have h2 := oa_hi N (f1.lt hj)
    have h3 := oa_ne N (f1.ne hj (by omega) e)
    have := (hp a k z).2.2
    unfold OA at this
    omega
  refine ⟨f1, (hf.2.2.2.1 _ _ (fun z => (hp _ _ z).1 ⟨rfl, Or.inr rfl⟩)).trans f2, (hf.2.2.2.1 _ _ (fun z => (hp _ _ z).1 ⟨rfl, Or.inl rfl⟩)).trans f3, fun i hi => (hf.2.2.2.1 _ _ (fun z => (hp _ _ z).2.1 rfl)).trans (f4 i hi), f5.fr hf (no 7 (by omega) (by omega)), fun i hi => (f6 i hi).fr hf (no i (by omega) (by omega)), fun z => (f7 z).fr hf (fun a k z1 z2 => no 5 (by omega) (by omega) a k (by rw [f1.2.2]; exact z1) (by rw [f1.2.2]; exact z2))⟩
theorem x157 (h : TC m N X) (hF : TF m N f X) : ∃ m' T, am_ca sa sv (d + 5) 157 [.ref N] m = some (.inl none, m') ∧ Fr (P157 N) m m' ∧ CT m' N X.b X.n T 0 ∧ TC m' N (X157 X) ∧ TF m' N f (X157 X) := by
  obtain ⟨m1, T, g1, g2, g3, g4, g5⟩ := x134 (sa := sa) (sv := sv) (d := d) h.x h.q h.b
  have fs : Fr (fun a k => a = N ∧ k = 1) m1 (si_ m1 N 1 (nI 0)) := (Fr.refl _ _).si ⟨rfl, rfl⟩
  have hf : Fr (P157 N) m (si_ m1 N 1 (nI 0)) := (g2.mono fun _ _ z => Or.inl z).trans (fs.mono fun _ _ z => Or.inr z)
  have hT : CT (si_ m1 N 1 (nI 0)) N X.b X.n T 0 := g3.fr fs (fun a k z => ⟨XF.a0 z.1 (by omega), by omega, by omega, by omega, by omega⟩)
  have hF' : TF (si_ m1 N 1 (nI 0)) N f (X157 X) := TF.fr (X := X) hF h.u5 hf (fun a k z => by
    have := (P157.x z).2
    exact ⟨by omega, by omega, Or.inl (by omega)⟩)
  have k1 : gk_ m1 = gk_ m := g2.1.1
  refine ⟨_, T, ?_, hf, hT, ?_, hF'⟩
  · rw [c157, b157_0]
    simp (disch := omega) only [gq_true, gb_true, gb_false, true_and, and_true, eq_self, not_false_eq_true, not_true_eq_false, true_or, or_true, false_or, or_false, false_and, and_false, c0_v, ci_v, cl_v, cf_v, pk_mul, nI_add, nI_clamp, nI_lt0, nI_0le, nI_eq0, nI_lt0r, nI_ltE, nI_leE, nI_eqE, nI_m1, in_t, ba0, ba1, Nat.one_ne_zero, Nat.reduceEqDiff, Nat.reduceLeDiff, Nat.add_eq_zero_iff, xk0 h.x, xr0_2 h.x, xr0_0 h.x, xk2 h.x, h.n, eq_false (show ¬ N + 2 = 0 by omega), eq_false (show ¬ N + 1 = 0 by omega), g1, k1]
  · refine TC.gen h hf (fun a k z => ?_) (X157 X) rfl rfl rfl ⟨Nat.zero_le _, fun k hk => absurd hk (Nat.not_lt_zero _)⟩ ?_ ?_ h.u5 ?_ ?_ ?_ (fun j hj => (h.o j hj).fr' hf (fun a k z1 z2 z => ?_)) ⟨f, hF'⟩
    · have := P157.x z
      exact ⟨this.1, by omega, by omega, by omega, by omega⟩
    · rw [gi_si, if_pos ⟨rfl, rfl⟩]; rfl
    · exact (hf.2.1 _ _ (fun z => by have := (P157.x z).2; omega)).trans h.u
    · exact (fs.2.1 _ _ (by omega)).trans g4
    · exact (fs.2.1 _ _ (by omega)).trans g5
    · exact (fs.2.1 _ _ (by omega)).trans g3.2.2.2.2.2.2.2.1
    · have := (P157.x z).2
      have := oa_lo N j
      omega
/-- the spare office takes the place of the present one -/
theorem x158 (h : XS m N) (h13 : gr_ m N 13 = oa N (f 7)) (h12 : gr_ m N 12 = oa N (f 6)) : am_ca sa sv (d + 1) 158 [.ref N] m = some (.inl none, sr_ (sr_ m N 13 (oa N (f 6))) N 12 (oa N (f 7))) := by
  rw [c158, b158_0]
  simp (disch := omega) only [gq_true, gb_true, gb_false, true_and, and_true, eq_self, not_false_eq_true, not_true_eq_false, true_or, or_true, false_or, or_false, false_and, and_false, c0_v, ci_v, cl_v, cf_v, pk_mul, nI_add, nI_clamp, nI_lt0, nI_0le, nI_eq0, nI_lt0r, nI_ltE, nI_leE, nI_eqE, nI_m1, in_t, ba0, ba1, Nat.one_ne_zero, Nat.reduceEqDiff, Nat.reduceLeDiff, Nat.add_eq_zero_iff, xk0 h, h13, h12, oa_z]
end I89
section R89
variable {sa sv d N n B : Nat} {X : TX} {b : Nat → Nat} {m m' : am_M} {σ : Er ⊕ Nat}
end R89
