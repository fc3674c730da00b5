/-! undo, save, restore, what was told -/
def unF (f : Nat → Nat) (u i : Nat) : Nat := if i = 7 then f u else if i = u then f 7 else f i
def unX (X : TX) : TX := if X.u = 0 then X else (X.wS (X.ps (X.u - 1)) (X.pq (X.u - 1))).wH (X.u - 1) X.ps X.pq
def unV (X : TX) : Int32 := if X.u = 0 then -1 else nI (X.u - 1)
def saX (X : TX) : TX := X.wV 1 X.s X.q
def reX (X : TX) : TX := if X.v = 1 then (X.wS X.ss X.sq).wH 0 X.ps X.pq else X
def reV (X : TX) : Int32 := X.ss 4
section I89
variable {sa sv d N n B u : Nat} {X : TX} {m m' : am_M} {f : Nat → Nat} {s s' : Nat → Int32} {q q' : Nat → Int64}
theorem unF_SL (h : SL f) (hu : u < 5) : SL (unF f u) := by
  obtain ⟨h1, h2, h3⟩ := h
  refine ⟨fun i hi => ?_, fun i j hi hj e => ?_, ?_⟩
  · unfold unF
    repeat' split
    all_goals exact h1 _ (by omega)
  · unfold unF at e
    (repeat' split at e)
    all_goals have := h2 _ _ (by omega) (by omega) e
    all_goals omega
  · unfold unF
    rw [if_neg (by omega), if_neg (by omega)]
    exact h3
def P208 (N a k : Nat) : Prop := (a = N ∧ (k = 9 ∨ k = 13)) ∨ a = N + 26
theorem P208.x {a k : Nat} (h : P208 N a k) : XF N a k := by
  rcases h with h | h
  · exact XF.a0 h.1 (by omega)
  · exact XF.a26 (by omega)
theorem x208 (h : TC m N X) : CI m N (unX X) none (unV X) (am_ca sa sv (d + 1) 208 [.ref N] m) := by
  have u5 := h.u5
  have hX := h.x
  by_cases e : X.u = 0
  · unfold unX unV
    rw [if_pos e, if_pos e]
    refine ⟨m, Fr.refl _ _, h, ?_⟩
    rw [c208, b208_0]
    simp (disch := omega) only [gq_true, gb_true, gb_false, true_and, and_true, eq_self, not_false_eq_true, not_true_eq_false, true_or, or_true, false_or, or_false, false_and, and_false, c0_v, ci_v, cl_v, cf_v, pk_mul, nI_add, nI_clamp, nI_lt0, nI_0le, nI_eq0, nI_lt0r, nI_ltE, nI_leE, nI_eqE, nI_m1, in_t, ba0, ba1, Nat.one_ne_zero, Nat.reduceEqDiff, Nat.reduceLeDiff, Nat.add_eq_zero_iff, xk0 hX, h.u, e, nI_le0, Nat.le_refl]
  · obtain ⟨f, f1, f2, f3, f4, f5, f6, f7⟩ := h.f
    obtain ⟨v, hv⟩ : ∃ v, X.u = v + 1 := ⟨X.u - 1, by omega⟩
    have e9 : gi_ m N 9 = nI (v + 1) := by rw [h.u, hv]
    have hm : nI (v + 1) - nI 1 = nI v := nI_p1 v
    have r26 := f4 v (by omega)
    have oN : ∀ j, ¬ oa N j = 0 := fun j => by unfold oa; omega
    have ho := h.o _ (f1.lt (i := 7) (by omega))
    have ng : (N + 26 = 0) = False := eq_false (by omega)
    have fr : Fr (P208 N) m (sr_ (sr_ (si_ m N 9 (nI v)) N 13 (oa N (f v))) (N + 26) v (oa N (f 7))) := ((((Fr.refl _ _).si (Or.inl ⟨rfl, Or.inl rfl⟩)).sr (Or.inl ⟨rfl, Or.inr rfl⟩)).sr (Or.inr rfl))
    have hi : ∀ a k, ¬ P208 N a k → gi_ (sr_ (sr_ (si_ m N 9 (nI v)) N 13 (oa N (f v))) (N + 26) v (oa N (f 7))) a k = gi_ m a k := fun a k z => fr.2.1 a k z
    have no : ∀ j a k, oa N j ≤ a → a < oa N j + 27 → ¬ P208 N a k := fun j a k z1 z2 z => by
      have := oa_lo N j
      unfold P208 at z
      omega
    have g9 : gi_ (si_ m N 9 (nI v)) N 9 = nI v := if_pos ⟨rfl, rfl⟩
    have g8 : gr_ (sr_ m N 13 (oa N (f v))) N 8 = N + 26 := by rw [gr_sr, if_neg (by omega)]; exact xr0_8 hX
    refine ⟨sr_ (sr_ (si_ m N 9 (nI v)) N 13 (oa N (f v))) (N + 26) v (oa N (f 7)), ?_, ?_, ?_⟩
    · exact fr.mono fun a k z => ⟨by unfold P208 at z; omega, z.x⟩
    · unfold unX
      rw [if_neg e]
      refine TC.gen h fr (fun a k z => ⟨z.x, by unfold P208 at z; omega, by unfold P208 at z; omega, by unfold P208 at z; omega, by unfold P208 at z; omega⟩) _ rfl rfl rfl (h.b.fr fr (fun k z => by unfold P208 at z; omega)) ((hi _ _ (by unfold P208; omega)).trans h.n) ?_ (show X.u - 1 ≤ 5 by omega) ((hi _ _ (by unfold P208; omega)).trans h.e1) ((hi _ _ (by unfold P208; omega)).trans h.e2) ((hi _ _ (by unfold P208; omega)).trans h.e3) (fun j hj => (h.o j hj).fr' fr (no j)) ⟨unF f v, unF_SL f1 (by omega), ?_, ?_, fun i hi => ?_, ?_, fun i hi => ?_, fun z => ?_⟩
      · show gi_ (si_ m N 9 (nI v)) N 9 = nI (X.u - 1)
        rw [g9, hv]
        rfl
      · rw [gr_sr, if_neg (by omega), gr_sr, if_pos ⟨rfl, rfl⟩]
        rfl
      · refine (fr.2.2.2.1 _ _ (by unfold P208; omega)).trans (f3.trans ?_)
        unfold unF
        rw [if_neg (by omega), if_neg (by omega)]
      · rw [gr_sr]
        unfold unF
        by_cases z : i = v
        · rw [if_pos ⟨rfl, z⟩, if_neg (by omega), if_pos z]
        · rw [if_neg (fun y => z y.2), if_neg (by omega), if_neg z, gr_sr, if_neg (by omega)]
          exact f4 i hi
      · show OV _ _ (X.ps (X.u - 1)) (X.pq (X.u - 1))
        rw [hv]
        exact (f6 v (by omega)).fr fr (no _)
      · have hi' : i < X.u - 1 := hi
        have : unF f v i = f i := by
          unfold unF
          rw [if_neg (by omega), if_neg (by omega)]
        rw [this]
        exact (f6 i (by omega)).fr fr (no _)
      · exact (f7 z).fr fr (no 5)
    · unfold unV
      rw [if_neg e, show X.u - 1 = v by omega]
      have nv : (nI (v + 1) ≤ 0) = False := eq_false (fun z => by
        have := (nI_leI (a := v + 1) (b := 0) (by omega) (by omega)).mp z
        omega)
      rw [c208, b208_0]
      simp (disch := omega) only [gq_true, gb_true, gb_false, true_and, and_true, eq_self, not_false_eq_true, not_true_eq_false, true_or, or_true, false_or, or_false, false_and, and_false, c0_v, ci_v, cl_v, cf_v, pk_mul, nI_add, nI_clamp, nI_lt0, nI_0le, nI_eq0, nI_lt0r, nI_ltE, nI_leE, nI_eqE, nI_m1, in_t, ba0, ba1, Nat.one_ne_zero, Nat.reduceEqDiff, Nat.reduceLeDiff, Nat.add_eq_zero_iff, xk0 hX, e9, nv, hm, g9, g8, xr0_8 hX, xk26 hX, r26, oa_z, ng, f2, ok0 ho, am_el6, show gk_ (sr_ (si_ m N 9 (nI v)) N 13 (oa N (f v))) (oa N (f 7)) = (1, 3) from @ok0 m _ ho]
      rw [gb_pos (by omega)]
theorem x159 (h : TC m N X) : CI m N X none X.e1 (am_ca sa sv (d + 1) 159 [.ref N] m) := ⟨m, Fr.refl _ _, h, by
  rw [c159, b159_0]
  simp (disch := omega) only [gq_true, gb_true, gb_false, true_and, and_true, eq_self, not_false_eq_true, not_true_eq_false, true_or, or_true, false_or, or_false, false_and, and_false, c0_v, ci_v, cl_v, cf_v, pk_mul, nI_add, nI_clamp, nI_lt0, nI_0le, nI_eq0, nI_lt0r, nI_ltE, nI_leE, nI_eqE, nI_m1, in_t, ba0, ba1, Nat.one_ne_zero, Nat.reduceEqDiff, Nat.reduceLeDiff, Nat.add_eq_zero_iff, xk0 h.x, xr0_2 h.x, xk2 h.x, h.e1, eq_false (show ¬ N + 2 = 0 by omega)]⟩
theorem x161 (h : TC m N X) : CI m N X none X.e3 (am_ca sa sv (d + 1) 161 [.ref N] m) := ⟨m, Fr.refl _ _, h, by
  rw [c161, b161_0]
  simp (disch := omega) only [gq_true, gb_true, gb_false, true_and, and_true, eq_self, not_false_eq_true, not_true_eq_false, true_or, or_true, false_or, or_false, false_and, and_false, c0_v, ci_v, cl_v, cf_v, pk_mul, nI_add, nI_clamp, nI_lt0, nI_0le, nI_eq0, nI_lt0r, nI_ltE, nI_leE, nI_eqE, nI_m1, in_t, ba0, ba1, Nat.one_ne_zero, Nat.reduceEqDiff, Nat.reduceLeDiff, Nat.add_eq_zero_iff, xk0 h.x, xr0_2 h.x, xk2 h.x, h.e3, eq_false (show ¬ N + 2 = 0 by omega)]⟩
end I89
