/-! a script's command is read (reference) -/
def rkd (c : Nat) : Nat := if c = 23 then 0 else if c = 24 then 1 else if c = 25 then 2 else if c = 8 then 3 else if c = 26 then 4 else if c = 27 then 5 else 6
/-- the reference's code -/
def CdR (m : am_M) (N : Nat) (C : List Ins) : Prop := gi_ m (N + 243) 39 = nI C.length ∧ ∀ k x, C[k]? = some x → gi_ m (N + 260) k = nI (rkd x.1) ∧ (¬ x.1 = 26 → ¬ x.1 = 6 → gi_ m (N + 261) k = nI x.2.1) ∧ (x.1 = 23 ∨ x.1 = 25 ∨ x.1 = 8 → gi_ m (N + 262) k = nI x.2.2)
def PRy (N a k : Nat) : Prop := RH N a k ∨ (a = N + 243 ∧ (k = 39 ∨ k = 40 ∨ k = 41)) ∨ a = N + 260 ∨ a = N + 261 ∨ a = N + 262
section R89
variable {sa sv d N n B i o W : Nat} {b : Nat → Nat} {m m' : am_M} {s : Nat → Int32} {q : Nat → Int64} {σ : Er ⊕ Nat} {C : List Ins}
theorem PRy.x {a k : Nat} (h : PRy N a k) : XF N a k := by
  rcases h with h | h | h
  · exact h.x
  · exact XF.a243 h.1 (by omega)
  · exact XF.hi (by omega)
theorem RS.y (h : RS m N s q) (hf : Fr (PRy N) m m') : RS m' N s q := ⟨h.1.frg hf (fun _ _ z => z.x), (funext fun k => hf.2.1 _ _ (by unfold PRy RH; omega)).trans h.2.1, (funext fun k => hf.2.2.1 _ _ (by unfold PRy RH; omega)).trans h.2.2⟩
theorem RQ.y {P : Nat → Nat → Prop} (h : RQ m N b n σ) (hf : Fr P m m') (hp : ∀ a k, P a k → (a = N + 243 ∧ (k = 39 ∨ k = 40 ∨ k = 41)) ∨ a = N + 260 ∨ a = N + 261 ∨ a = N + 262) : RQ m' N b n σ := h.fr hf (fun a k z => by
  have h1 := hp a k z
  refine ⟨?_, by omega, by omega⟩
  rcases h1 with z | z
  · exact XF.a243 z.1 (by omega)
  · exact XF.hi (by omega))
theorem y348 (h : RQ m N b n (.inr i)) : am_ca sa sv (d + 2) 348 [.ref (N + 243)] m = some (.inl (some (.int (if Kd b n i = 8 ∨ (23 ≤ Kd b n i ∧ Kd b n i ≤ 27) then nI (rkd (Kd b n i)) else -1))), m) := by
  have i16 : am_ca sa sv (d + 1) 236 [.ref (N + 243), .long (316784037 : Int64)] m = _ := y236 (sa := sa) (sv := sv) (d := d) h 16 (by decide)
  have i17 : am_ca sa sv (d + 1) 236 [.ref (N + 243), .long (525939 : Int64)] m = _ := y236 (sa := sa) (sv := sv) (d := d) h 17 (by decide)
  have i18 : am_ca sa sv (d + 1) 236 [.ref (N + 243), .long (609949268 : Int64)] m = _ := y236 (sa := sa) (sv := sv) (d := d) h 18 (by decide)
  have i1 : am_ca sa sv (d + 1) 236 [.ref (N + 243), .long (12748404 : Int64)] m = _ := y236 (sa := sa) (sv := sv) (d := d) h 1 (by decide)
  have i19 : am_ca sa sv (d + 1) 236 [.ref (N + 243), .long (3554917 : Int64)] m = _ := y236 (sa := sa) (sv := sv) (d := d) h 19 (by decide)
  have i20 : am_ca sa sv (d + 1) 236 [.ref (N + 243), .long (609752116 : Int64)] m = _ := y236 (sa := sa) (sv := sv) (d := d) h 20 (by decide)
  have e : ∀ k, isK b n k (.inr i) = decide (Kd b n i = k) := fun _ => rfl
  have hX := h.1
  rw [e] at i16 i17 i18 i1 i19 i20
  rw [c348, b348_0]
  generalize Kd b n i = K at *
  simp (disch := omega) only [gq_true, gb_true, gb_false, true_and, and_true, eq_self, not_false_eq_true, not_true_eq_false, true_or, or_true, false_or, or_false, false_and, and_false, c0_v, ci_v, cl_v, cf_v, pk_mul, nI_add, nI_clamp, nI_lt0, nI_0le, nI_eq0, nI_lt0r, nI_ltE, nI_leE, nI_eqE, nI_m1, in_t, ba0, ba1, Nat.one_ne_zero, Nat.reduceEqDiff, Nat.reduceLeDiff, Nat.add_eq_zero_iff, xk243 hX, i16]
  by_cases k23 : K = 7 + 16
  · rw [decide_eq_true k23, gb_neg (show ¬ tr_ true = 0 by decide), if_pos (by omega), k23]
    rfl
  rw [decide_eq_false k23, gb_pos (show tr_ false = 0 from rfl)]
  simp (disch := omega) only [gq_true, gb_true, gb_false, true_and, and_true, eq_self, not_false_eq_true, not_true_eq_false, true_or, or_true, false_or, or_false, false_and, and_false, c0_v, ci_v, cl_v, cf_v, pk_mul, nI_add, nI_clamp, nI_lt0, nI_0le, nI_eq0, nI_lt0r, nI_ltE, nI_leE, nI_eqE, nI_m1, in_t, ba0, ba1, Nat.one_ne_zero, Nat.reduceEqDiff, Nat.reduceLeDiff, Nat.add_eq_zero_iff, xk243 hX, i17]
  by_cases k24 : K = 7 + 17
  · rw [decide_eq_true k24, gb_neg (show ¬ tr_ true = 0 by decide), if_pos (by omega), k24]
    rfl
  rw [decide_eq_false k24, gb_pos (show tr_ false = 0 from rfl)]
  simp (disch := omega) only [gq_true, gb_true, gb_false, true_and, and_true, eq_self, not_false_eq_true, not_true_eq_false, true_or, or_true, false_or, or_false, false_and, and_false, c0_v, ci_v, cl_v, cf_v, pk_mul, nI_add, nI_clamp, nI_lt0, nI_0le, nI_eq0, nI_lt0r, nI_ltE, nI_leE, nI_eqE, nI_m1, in_t, ba0, ba1, Nat.one_ne_zero, Nat.reduceEqDiff, Nat.reduceLeDiff, Nat.add_eq_zero_iff, xk243 hX, i18]
  by_cases k25 : K = 7 + 18
  · rw [decide_eq_true k25, gb_neg (show ¬ tr_ true = 0 by decide), if_pos (by omega), k25]
    rfl
  rw [decide_eq_false k25, gb_pos (show tr_ false = 0 from rfl)]
  simp (disch := omega) only [gq_true, gb_true, gb_false, true_and, and_true, eq_self, not_false_eq_true, not_true_eq_false, true_or, or_true, false_or, or_false, false_and, and_false, c0_v, ci_v, cl_v, cf_v, pk_mul, nI_add, nI_clamp, nI_lt0, nI_0le, nI_eq0, nI_lt0r, nI_ltE, nI_leE, nI_eqE, nI_m1, in_t, ba0, ba1, Nat.one_ne_zero, Nat.reduceEqDiff, Nat.reduceLeDiff, Nat.add_eq_zero_iff, xk243 hX, i1]
  by_cases k8 : K = 7 + 1
  · rw [decide_eq_true k8, gb_neg (show ¬ tr_ true = 0 by decide), if_pos (by omega), k8]
    rfl
  rw [decide_eq_false k8, gb_pos (show tr_ false = 0 from rfl)]
  simp (disch := omega) only [gq_true, gb_true, gb_false, true_and, and_true, eq_self, not_false_eq_true, not_true_eq_false, true_or, or_true, false_or, or_false, false_and, and_false, c0_v, ci_v, cl_v, cf_v, pk_mul, nI_add, nI_clamp, nI_lt0, nI_0le, nI_eq0, nI_lt0r, nI_ltE, nI_leE, nI_eqE, nI_m1, in_t, ba0, ba1, Nat.one_ne_zero, Nat.reduceEqDiff, Nat.reduceLeDiff, Nat.add_eq_zero_iff, xk243 hX, i19]
  by_cases k26 : K = 7 + 19
  · rw [decide_eq_true k26, gb_neg (show ¬ tr_ true = 0 by decide), if_pos (by omega), k26]
    rfl
  rw [decide_eq_false k26, gb_pos (show tr_ false = 0 from rfl)]
  simp (disch := omega) only [gq_true, gb_true, gb_false, true_and, and_true, eq_self, not_false_eq_true, not_true_eq_false, true_or, or_true, false_or, or_false, false_and, and_false, c0_v, ci_v, cl_v, cf_v, pk_mul, nI_add, nI_clamp, nI_lt0, nI_0le, nI_eq0, nI_lt0r, nI_ltE, nI_leE, nI_eqE, nI_m1, in_t, ba0, ba1, Nat.one_ne_zero, Nat.reduceEqDiff, Nat.reduceLeDiff, Nat.add_eq_zero_iff, xk243 hX, i20]
  by_cases k27 : K = 7 + 20
  · rw [decide_eq_true k27, gb_neg (show ¬ tr_ true = 0 by decide), if_pos (by omega), k27]
    rfl
  rw [decide_eq_false k27, gb_pos (show tr_ false = 0 from rfl), if_neg (by omega)]
theorem y349 (h : RQ m N b n σ) : ∃ m' v, am_ca sa sv (d + 4) 349 [.ref (N + 243)] m = some (.inl (some (.int (v))), m') ∧ Fr (RH N) m m' ∧ RQ m' N b n (pst (eb σ (sNum b n 0 999999))) ∧ ∀ x, eb σ (sNum b n 0 999999) = .inr x → v = nI x.2 := by
  obtain ⟨m', v, a1, a2, a3, a4⟩ := y240 (sa := sa) (sv := sv) (d := d) h 0 999999 (by omega) (by omega)
  refine ⟨m', v, ?_, a2, a3, a4⟩
  rw [c349, b349_0]
  simp (disch := omega) only [gq_true, gb_true, gb_false, true_and, and_true, eq_self, not_false_eq_true, not_true_eq_false, true_or, or_true, false_or, or_false, false_and, and_false, c0_v, ci_v, cl_v, cf_v, pk_mul, nI_add, nI_clamp, nI_lt0, nI_0le, nI_eq0, nI_lt0r, nI_ltE, nI_leE, nI_eqE, nI_m1, in_t, ba0, ba1, Nat.one_ne_zero, Nat.reduceEqDiff, Nat.reduceLeDiff, Nat.add_eq_zero_iff, xk243 h.1, a1]
/-- the tail of a command: it counts where all was good -/
theorem y350_186 (h : RQ m N b n σ) (h39 : gi_ m (N + 243) 39 = nI C.length) (h41 : gi_ m (N + 243) 41 = nI o) (c : Nat) (hc : c < 10) : ∃ m', r350 sa sv (d + 2) 186 [some (.ref (N + 243)), some (.int (nI c)), some (.int (nI C.length))] [] m = some (.inl none, m') ∧ Fr (fun a k => a = N + 243 ∧ (k = 39 ∨ k = 41)) m m' ∧ (gd_s σ = true → gi_ m' (N + 243) 39 = nI (C.length + 1) ∧ gi_ m' (N + 243) 41 = nI (o + if c = 5 then 1 else 0)) := by
  have hX := h.1
  have q := y235 (sa := sa) (sv := sv) (d := d + 1) h
  cases z : gd_s σ with
  | false =>
    rw [z, tr_f] at q
    refine ⟨m, ?_, Fr.refl _ _, fun z => by cases z⟩
    rw [b350_186]
    simp (disch := omega) only [gq_true, gb_true, gb_false, true_and, and_true, eq_self, not_false_eq_true, not_true_eq_false, true_or, or_true, false_or, or_false, false_and, and_false, c0_v, ci_v, cl_v, cf_v, pk_mul, nI_add, nI_clamp, nI_lt0, nI_0le, nI_eq0, nI_lt0r, nI_ltE, nI_leE, nI_eqE, nI_m1, in_t, ba0, ba1, Nat.one_ne_zero, Nat.reduceEqDiff, Nat.reduceLeDiff, Nat.add_eq_zero_iff, xk243 hX, q]
  | true =>
    rw [z, tr_t] at q
    have f1 : Fr (fun a k => a = N + 243 ∧ (k = 39 ∨ k = 41)) m (si_ (si_ m (N + 243) 39 (nI (C.length + 1))) (N + 243) 41 (nI (o + if c = 5 then 1 else 0))) := ((Fr.refl _ _).si ⟨rfl, Or.inl rfl⟩).si ⟨rfl, Or.inr rfl⟩
    have e41 : gi_ (si_ m (N + 243) 39 (nI (C.length + 1))) (N + 243) 41 = nI o := (if_neg (by omega)).trans h41
    refine ⟨_, ?_, f1, fun _ => ⟨(if_neg (by omega)).trans (if_pos ⟨rfl, rfl⟩), if_pos ⟨rfl, rfl⟩⟩⟩
    by_cases e : c = 5
    · rw [if_pos e, b350_186, e]
      simp (disch := omega) only [gq_true, gb_true, gb_false, true_and, and_true, eq_self, not_false_eq_true, not_true_eq_false, true_or, or_true, false_or, or_false, false_and, and_false, c0_v, ci_v, cl_v, cf_v, pk_mul, nI_add, nI_clamp, nI_lt0, nI_0le, nI_eq0, nI_lt0r, nI_ltE, nI_leE, nI_eqE, nI_m1, in_t, ba0, ba1, Nat.one_ne_zero, Nat.reduceEqDiff, Nat.reduceLeDiff, Nat.add_eq_zero_iff, xk243 hX, q, h39, gk_siF, y223_1, e41]
    · rw [if_neg e, b350_186]
      simp (disch := omega) only [gq_true, gb_true, gb_false, true_and, and_true, eq_self, not_false_eq_true, not_true_eq_false, true_or, or_true, false_or, or_false, false_and, and_false, c0_v, ci_v, cl_v, cf_v, pk_mul, nI_add, nI_clamp, nI_lt0, nI_0le, nI_eq0, nI_lt0r, nI_ltE, nI_leE, nI_eqE, nI_m1, in_t, ba0, ba1, Nat.one_ne_zero, Nat.reduceEqDiff, Nat.reduceLeDiff, Nat.add_eq_zero_iff, xk243 hX, q, h39, gk_siF, eq_false e, y223_0, e41]
end R89
