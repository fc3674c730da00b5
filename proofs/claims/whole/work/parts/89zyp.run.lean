/-! a script is done (class) -/
abbrev EX : Type := (Nat → Int32) × (Nat → Int64) × Nat
def exO (x : Ins) (t : EX) : Bool × EX := if 40 ≤ t.2.2 then (false, t) else match dO x t.1 t.2.1 with
  | none => (false, t)
  | some y => (true, y.1, y.2, t.2.2 + 1)
def exL {α : Type} (f : α → EX → Bool × EX) : List α → EX → Bool × EX
  | [], t => (true, t)
  | x :: l, t => bif (f x t).1 then exL f l (f x t).2 else (false, (f x t).2)
def exR (g : EX → Bool × EX) : Nat → EX → Bool × EX
  | 0, t => (true, t)
  | n + 1, t => bif (g t).1 then exR g n (g t).2 else (false, (g t).2)
def exI : (k : Nat) → Cm k → EX → Bool × EX
  | 0, x, t => exO x t
  | _ + 1, .inl x, t => exO x t
  | k + 1, .inr (n, l), t => exR (exL (exI k) l) n t
section R89
variable {sa sv d N o B p : Nat} {m m' : am_M} {s : Nat → Int32} {g : Nat → Int32} {t : EX} {x : Ins}
/-- what is so of a state as a script is done -/
def EG (B : Nat) (s : Nat → Int32) (t : EX) : Prop := WG (B + t.2.2) t.1 t.2.1 ∧ t.2.2 ≤ 40 ∧ cN t.1 0 = cN s 0 ∧ cN t.1 1 = cN s 1
theorem exO_G (h : EG B s t) (hB : B + 40 < 2 ^ 29) (hx : InG s x) : EG B s (exO x t).2 := by
  unfold exO
  split
  · exact h
  · rename_i z
    cases y : dO x t.1 t.2.1 with
    | none => exact h
    | some y' =>
      obtain ⟨g1, g2, g3⟩ := dO_G h.1 (by have := h.2.1; omega) (hx.cg h.2.2.1 h.2.2.2) y
      exact ⟨g1, by show t.2.2 + 1 ≤ 40; omega, g2.trans h.2.2.1, g3.trans h.2.2.2⟩
/-- a class that does a script -/
def XX (m : am_M) (N o B : Nat) (s g : Nat → Int32) (t : EX) : Prop := SX m N o ∧ OV m o t.1 t.2.1 ∧ EG B s t ∧ gi_ m (N + 10) 3 = nI t.2.2 ∧ gi_ m (N + 12) = g
theorem x99_op (h : XX m N o B s g t) (hB : B + 40 < 2 ^ 29) (hp : p < 30) (hr : RwO g p x) (hx : InG s x) (l1 l3 : Int32) (p' : Nat) (hp' : p < p') (hp2 : p' ≤ 30) : ∃ m', r99 sa sv (d + 5) 3 [some (.ref (N + 10)), some (.int l1), some (.int (nI p')), some (.int l3), some (.int (nI p))] [] m = (bif (exO x t).1 then r99 sa sv (d + 5) 3 [some (.ref (N + 10)), some (.int l1), some (.int (nI p')), some (.int l3), some (.int (nI (p + 1)))] [] m' else some (.inl (some (.int (nI 0))), m')) ∧ Fr (PXr N o) m m' ∧ XX m' N o B s g (exO x t).2 := by
  obtain ⟨hS, hV, hE, h3, hg⟩ := h
  have hX := hS.1
  have z11 : (N + 11 = 0) = False := eq_false (by omega)
  have hr' : RwO (gi_ m (N + 12)) p x := by rw [hg]; exact hr
  have c0 := x127c (sa := sa) (sv := sv) (d := d + 4) hX p 0 hp (by omega)
  have w0 : gi_ m (N + 12) (p * 4 + 0) = nI x.1 := hr'.1
  rw [w0] at c0
  have n27 : ¬ x.1 = 27 := by unfold InG at hx; omega
  have xb : x.1 < 30 := by unfold InG at hx; omega
  have t40 := hE.2.1
  unfold exO
  by_cases z : 40 ≤ t.2.2
  · rw [if_pos z]
    refine ⟨m, ?_, Fr.refl _ _, hS, hV, hE, h3, hg⟩
    rw [b99_3]
    simp (disch := omega) only [gq_true, gb_true, gb_false, true_and, and_true, eq_self, not_false_eq_true, not_true_eq_false, true_or, or_true, false_or, or_false, false_and, and_false, c0_v, ci_v, cl_v, cf_v, pk_mul, nI_add, nI_clamp, nI_lt0, nI_0le, nI_eq0, nI_lt0r, nI_ltE, nI_leE, nI_eqE, nI_m1, in_t, ba0, ba1, Nat.one_ne_zero, Nat.reduceEqDiff, Nat.reduceLeDiff, Nat.add_eq_zero_iff, eq_false (show ¬ p' ≤ p by omega), xk10 hX, xr10_0 hX, z11, xk11 hX, c0, eq_false n27, h3, z]
    rfl
  · rw [if_neg z]
    have c := x101 (sa := sa) (sv := sv) (d := d) hS hV hE.1 (by omega) hp hr' (hx.cg hE.2.2.1 hE.2.2.2)
    have EGn := exO_G (x := x) hE hB hx
    unfold exO at EGn
    rw [if_neg z] at EGn
    cases y : dO x t.1 t.2.1 with
    | none =>
      rw [y] at c
      refine ⟨m, ?_, Fr.refl _ _, hS, hV, hE, h3, hg⟩
      rw [b99_3]
      simp (disch := omega) only [gq_true, gb_true, gb_false, true_and, and_true, eq_self, not_false_eq_true, not_true_eq_false, true_or, or_true, false_or, or_false, false_and, and_false, c0_v, ci_v, cl_v, cf_v, pk_mul, nI_add, nI_clamp, nI_lt0, nI_0le, nI_eq0, nI_lt0r, nI_ltE, nI_leE, nI_eqE, nI_m1, in_t, ba0, ba1, Nat.one_ne_zero, Nat.reduceEqDiff, Nat.reduceLeDiff, Nat.add_eq_zero_iff, eq_false (show ¬ p' ≤ p by omega), xk10 hX, xr10_0 hX, z11, xk11 hX, c0, eq_false n27, h3, eq_false z, c]
      rfl
    | some y' =>
      rw [y] at c EGn
      obtain ⟨m1, c1, c2, c3, c4⟩ := c
      have hX1 := c3.1
      have l0 := c3.2.2.2.2.1
      have nP : ∀ a k, (a = N + 10 ∨ a = N + 12) → ¬ PXo N o a k := fun a k z y => by
        rcases y with y | y
        · unfold DX DP DQ DC DL at y
          omega
        · unfold OA at y
          omega
      have e3 : gi_ m1 (N + 10) 3 = nI t.2.2 := (c2.2.1 _ _ (nP _ _ (Or.inl rfl))).trans h3
      have f2 : Fr (fun a k => a = N + 10 ∧ k = 3) m1 (si_ m1 (N + 10) 3 (nI (t.2.2 + 1))) := (Fr.refl _ _).si ⟨rfl, rfl⟩
      have S2 : SX (si_ m1 (N + 10) 3 (nI (t.2.2 + 1))) N o := ⟨hX1.frg f2 (fun a k z => XF.a10 z.1 (by omega)), c3.2.1, c3.2.2.1, c3.2.2.2.1.fr' f2 (fun a k z1 z2 z => by omega), c3.2.2.2.2⟩
      refine ⟨_, ?_, (c2.mono fun a k z => z.r).trans (f2.mono fun a k z => Or.inr (Or.inr z)), S2, c4.fr f2 (fun a k z1 z2 z => by omega), EGn, if_pos ⟨rfl, rfl⟩, ?_⟩
      · have n10 : (nI 1 = 0) = False := eq_false (by decide)
        rw [b99_3]
        simp (disch := omega) only [gq_true, gb_true, gb_false, true_and, and_true, eq_self, not_false_eq_true, not_true_eq_false, true_or, or_true, false_or, or_false, false_and, and_false, c0_v, ci_v, cl_v, cf_v, pk_mul, nI_add, nI_clamp, nI_lt0, nI_0le, nI_eq0, nI_lt0r, nI_ltE, nI_leE, nI_eqE, nI_m1, in_t, ba0, ba1, Nat.one_ne_zero, Nat.reduceEqDiff, Nat.reduceLeDiff, Nat.add_eq_zero_iff, eq_false (show ¬ p' ≤ p by omega), xk10 hX, xr10_0 hX, z11, xk11 hX, c0, eq_false n27, h3, eq_false z]
        rw [c1, ci_v]
        simp (disch := omega) only [gq_true, gb_true, gb_false, true_and, and_true, eq_self, not_false_eq_true, not_true_eq_false, true_or, or_true, false_or, or_false, false_and, and_false, c0_v, ci_v, cl_v, cf_v, pk_mul, nI_add, nI_clamp, nI_lt0, nI_0le, nI_eq0, nI_lt0r, nI_ltE, nI_leE, nI_eqE, nI_m1, in_t, ba0, ba1, Nat.one_ne_zero, Nat.reduceEqDiff, Nat.reduceLeDiff, Nat.add_eq_zero_iff, n10, xk10 hX1, e3]
        rfl
      · rw [← hg]
        funext k
        exact (if_neg (by omega)).trans (c2.2.1 _ _ (nP _ _ (Or.inr rfl)))
end R89
