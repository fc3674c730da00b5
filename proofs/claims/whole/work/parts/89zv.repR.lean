/-! reports: the reference's calls, whole -/
section R89
variable {sa sv d N n B : Nat} {X : TX} {m m' m1 : am_M} {L : List Nat} {s : Nat → Int32} {q : Nat → Int64}
def PRs (N a k : Nat) : Prop := (a = N + 243 ∧ (k = 0 ∨ k = 44 ∨ k = 45)) ∨ a = N + 265
theorem PRs.x {a k : Nat} (h : PRs N a k) : XF N a k := by
  rcases h with h | h
  · exact XF.a243 h.1 (by omega)
  · exact XF.hi (by omega)
theorem PRr.to {a k : Nat} (h : PRr N a k) : PRs N a k := by unfold PRr at h; unfold PRs; omega
theorem PRs.k {a k : Nat} (h : PRs N a k) : KR N a k := ⟨by unfold PRs at h; omega, by unfold PRs at h; omega, h.x⟩
theorem RS.rp (h : RS m N s q) (hf : Fr (PRs N) m m') : RS m' N s q := ⟨h.1.frg hf (fun a k z => z.x), (funext fun k => hf.2.1 _ _ (by unfold PRs; omega)).trans h.2.1, (funext fun k => hf.2.2.1 _ _ (by unfold PRs; omega)).trans h.2.2⟩
theorem TR.rep (h : TR m N X) (hf : Fr (PRs N) m m') (hR : RpR m' N L) (h45 : gi_ m' (N + 243) 45 = nI 1) : TR m' N (repX X L) := by
  have hi : ∀ a k, ¬ PRs N a k → gi_ m' a k = gi_ m a k := fun a k z => hf.2.1 a k z
  have hl : ∀ a k, ¬ PRs N a k → gl_ m' a k = gl_ m a k := fun a k z => hf.2.2.1 a k z
  exact ⟨h.x.frg hf (fun a k z => z.x), fun k z => (hi _ _ (by unfold PRs; omega)).trans (h.s k z), fun k z => (hl _ _ (by unfold PRs; omega)).trans (h.q k z), (hi _ _ (by unfold PRs; omega)).trans h.n, fun k z => (hi _ _ (by unfold PRs; omega)).trans (h.b k z), (hi _ _ (by unfold PRs; omega)).trans h.u, fun i k z z2 => (hi _ _ (by unfold PRs; omega)).trans (h.ps i k z z2), fun i k z z2 => (hl _ _ (by unfold PRs; omega)).trans (h.pq i k z z2), (hi _ _ (by unfold PRs; omega)).trans h.v, fun z k z2 => (hi _ _ (by unfold PRs; omega)).trans (h.ss z k z2), fun z k z2 => (hl _ _ (by unfold PRs; omega)).trans (h.sq z k z2), (hi _ _ (by unfold PRs; omega)).trans h.e1, (hi _ _ (by unfold PRs; omega)).trans h.e2, (hi _ _ (by unfold PRs; omega)).trans h.e3, hR.2.1, ⟨1, by omega, h45, fun z => by omega⟩, hR.2.2⟩
theorem y358 (h : XS m N) : ∃ m', am_ca sa sv (d + 1) 358 [.ref (N + 243)] m = some (.inl none, m') ∧ Fr (PRs N) m m' ∧ RpR m' N [] ∧ gi_ m' (N + 243) 45 = nI 1 := by
  have f : Fr (PRs N) m (si_ (si_ (si_ m (N + 243) 0 (nI 0)) (N + 243) 44 (nI 0)) (N + 243) 45 (nI 1)) := (((Fr.refl _ _).si (Or.inl ⟨rfl, by omega⟩)).si (Or.inl ⟨rfl, by omega⟩)).si (Or.inl ⟨rfl, by omega⟩)
  refine ⟨_, ?_, f, ⟨h.frg f (fun a k z => z.x), ?_, fun k hk => absurd hk (Nat.not_lt_zero _)⟩, if_pos ⟨rfl, rfl⟩⟩
  · rw [c358, b358_0]
    simp (disch := omega) only [gq_true, gb_true, gb_false, true_and, and_true, eq_self, not_false_eq_true, not_true_eq_false, true_or, or_true, false_or, or_false, false_and, and_false, c0_v, ci_v, cl_v, cf_v, pk_mul, nI_add, nI_clamp, nI_lt0, nI_0le, nI_eq0, nI_lt0r, nI_ltE, nI_leE, nI_eqE, nI_m1, in_t, ba0, ba1, Nat.one_ne_zero, Nat.reduceEqDiff, Nat.reduceLeDiff, Nat.add_eq_zero_iff, xk243 h]
  · rw [gi_si, if_neg (by omega), gi_si, if_pos ⟨rfl, rfl⟩]
    rfl
theorem y359_6 (hC : WC s) (hD : WD s) (hN : WN s q) (hb : WB B q) : ∀ (k p : Nat) (m : am_M), p + k = cN s 0 → RpR m N (rpB s q p) → RS m N s q → ∃ m', r359 sa sv (d + 2) 6 [some (.ref (N + 243)), some (.int (nI p))] [] m = some (.inl (some (.int (nI (rpB s q (cN s 0)).length))), m') ∧ Fr (PRr N) m m' ∧ RpR m' N (rpB s q (cN s 0)) := by
  have n10 := isN_lt (wc_np hC) (by decide)
  obtain ⟨e0, b0⟩ := (wc_np hC).c (by decide)
  have z245 : (N + 245 = 0) = False := eq_false (by omega)
  have z249 : (N + 249 = 0) = False := eq_false (by omega)
  intro k
  induction k with
  | zero =>
    intro p m hp h hR
    have hX := h.1
    have g0 : gi_ m (N + 245) 0 = nI (cN s 0) := (congrFun hR.2.1 0).trans e0
    refine ⟨m, ?_, Fr.refl _ _, by rw [show cN s 0 = p by omega]; exact h⟩
    rw [b359_6]
    simp (disch := omega) only [gq_true, gb_true, gb_false, true_and, and_true, eq_self, not_false_eq_true, not_true_eq_false, true_or, or_true, false_or, or_false, false_and, and_false, c0_v, ci_v, cl_v, cf_v, pk_mul, nI_add, nI_clamp, nI_lt0, nI_0le, nI_eq0, nI_lt0r, nI_ltE, nI_leE, nI_eqE, nI_m1, in_t, ba0, ba1, Nat.one_ne_zero, Nat.reduceEqDiff, Nat.reduceLeDiff, Nat.add_eq_zero_iff, xk243 hX, xr243_15 hX, xk245 hX, z245, g0, show cN s 0 ≤ p by omega, h.2.1, show p = cN s 0 by omega, Nat.le_refl]
  | succ k ih =>
    intro p m hp h hR
    have hX := h.1
    have g0 : gi_ m (N + 245) 0 = nI (cN s 0) := (congrFun hR.2.1 0).trans e0
    have len := rpB_len s q p
    have nl := namL_len (q (462 + p))
    have n1 := numL_len (q p).toNatClampNeg
    have n2 := numL_len (owed_ s (nI p) (cN s 3)).toNatClampNeg
    obtain ⟨g1, g2⟩ := l_nat (x := q p) (hb p (by omega)).1
    obtain ⟨w1, w2⟩ := owed_l hC hD (nI p)
    have l462 : gl_ m (N + 249) (462 + p) = q (462 + p) := congrFun hR.2.2 _
    obtain ⟨m1, a1, a2, a3⟩ := y357 (sa := sa) (sv := sv) (d := d) h (hN.2.2.1 p (by omega)) (by omega)
    have R1 := hR.rp (a2.mono fun a k z => z.to)
    obtain ⟨m2, b1, b2, b3⟩ := y355 (sa := sa) (sv := sv) (d := d + 1) a3 58 (by simp only [List.length_append]; omega)
    have R2 := R1.rp (b2.mono fun a k z => z.to)
    have lp : gl_ m2 (N + 249) p = q p := congrFun R2.2.2 _
    obtain ⟨m3, c1, c2, c3⟩ := y356 (sa := sa) (sv := sv) (d := d) b3 (q p).toNatClampNeg g2 (by simp only [List.length_append, List.length_singleton]; omega)
    rw [← g1] at c1
    have R3 := R2.rp (c2.mono fun a k z => z.to)
    obtain ⟨m4, d1, d2, d3⟩ := y355 (sa := sa) (sv := sv) (d := d + 1) c3 32 (by simp only [List.length_append, List.length_singleton]; omega)
    have R4 := R3.rp (d2.mono fun a k z => z.to)
    have q307 := y307 (sa := sa) (sv := sv) (d := d) R4 hC (nI p)
    obtain ⟨m5, e1, e2, e3⟩ := y356 (sa := sa) (sv := sv) (d := d) d3 (owed_ s (nI p) (cN s 3)).toNatClampNeg (by omega) (by simp only [List.length_append, List.length_singleton]; omega)
    rw [← w1] at e1
    have R5 := R4.rp (e2.mono fun a k z => z.to)
    obtain ⟨m6, f1, f2, f3⟩ := y355 (sa := sa) (sv := sv) (d := d + 1) e3 10 (by simp only [List.length_append, List.length_singleton]; omega)
    have R6 := R5.rp (f2.mono fun a k z => z.to)
    have hL : RpR m6 N (rpB s q (p + 1)) := by
      unfold rpB rpR
      simpa only [List.append_assoc] using f3
    obtain ⟨m7, i1, i2, i3⟩ := ih (p + 1) m6 (by omega) hL R6
    refine ⟨m7, ?_, (((((a2.trans b2).trans c2).trans d2).trans e2).trans f2).trans i2, i3⟩
    rw [b359_6]
    simp (disch := omega) only [gq_true, gb_true, gb_false, true_and, and_true, eq_self, not_false_eq_true, not_true_eq_false, true_or, or_true, false_or, or_false, false_and, and_false, c0_v, ci_v, cl_v, cf_v, pk_mul, nI_add, nI_clamp, nI_lt0, nI_0le, nI_eq0, nI_lt0r, nI_ltE, nI_leE, nI_eqE, nI_m1, in_t, ba0, ba1, Nat.one_ne_zero, Nat.reduceEqDiff, Nat.reduceLeDiff, Nat.add_eq_zero_iff, xk243 hX, xr243_15 hX, xk245 hX, z245, g0, eq_false (show ¬ cN s 0 ≤ p by omega), xr243_19 hX, xk249 hX, z249, l462, a1, xk243 a3.1, b1, xk243 b3.1, xr243_19 b3.1, xk249 b3.1, Nat.zero_add, lp, c1, xk243 c3.1, d1, xk243 d3.1, q307, e1, xk243 e3.1, f1]
    exact i1
theorem y359 (h : TR m N X) (hs : X.s = gi_ m (N + 245)) (hq : X.q = gl_ m (N + 249)) (hG : XG B X) : RN m N (repX X (rpB X.s X.q (cN X.s 0))) (nI (rpB X.s X.q (cN X.s 0)).length) (am_ca sa sv (d + 3) 359 [.ref (N + 243)] m) := by
  have hR := h.RS hs hq
  obtain ⟨m1, a1, a2, a3, a4⟩ := y358 (sa := sa) (sv := sv) (d := d + 1) h.x
  obtain ⟨m2, b1, b2, b3⟩ := y359_6 (sa := sa) (sv := sv) (d := d) hG.1.C hG.1.1.2.2.2.1 hG.1.1.2.2.2.2.2.2.2 hG.1.2 (cN X.s 0) 0 m1 (by omega) a3 (hR.rp a2)
  have hf : Fr (PRs N) m m2 := a2.trans (b2.mono fun a k z => z.to)
  refine ⟨m2, hf.mono fun a k z => z.k, h.rep hf b3 ((b2.2.1 _ _ (by unfold PRr; omega)).trans a4), ?_⟩
  rw [c359, b359_0]
  simp (disch := omega) only [gq_true, gb_true, gb_false, true_and, and_true, eq_self, not_false_eq_true, not_true_eq_false, true_or, or_true, false_or, or_false, false_and, and_false, c0_v, ci_v, cl_v, cf_v, pk_mul, nI_add, nI_clamp, nI_lt0, nI_0le, nI_eq0, nI_lt0r, nI_ltE, nI_leE, nI_eqE, nI_m1, in_t, ba0, ba1, Nat.one_ne_zero, Nat.reduceEqDiff, Nat.reduceLeDiff, Nat.add_eq_zero_iff, xk243 h.x, a1]
  exact b1
end R89
