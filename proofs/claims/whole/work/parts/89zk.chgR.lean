/-! income, pass, revert, setLeast, close: the reference -/
section R89
variable {sa sv d N n B : Nat} {X : TX} {m m' : am_M} {s : Nat → Int32} {q : Nat → Int64}
theorem y341 (hR : RS m N s q) (hC : WC s) (x : Int32) : am_ca sa sv (d + 2) 341 [.ref (N + 243), .int x] m = some (.inl (some (.int (tr_ (cps_ s x)))), m) := by
  obtain ⟨e0, b0⟩ := (wc_day hC).c (by decide)
  have hx : decide ((0 : Int64) ≤ x.toInt64 ∧ x.toInt64 ≤ (9999 : Int64)) = inR x 10000 := by
    unfold inR
    refine decide_eq_decide.mpr ?_
    rw [show (0 : Int64) = (0 : Int32).toInt64 from rfl, show (9999 : Int64) = (9999 : Int32).toInt64 from rfl, l_le, l_le, show (0 : Int32).toInt = 0 from rfl, show (9999 : Int32).toInt = 9999 from rfl]
    omega
  have q222 := y222 (sa := sa) (sv := sv) (d := d) (m := m) x.toInt64 0 9999
  rw [hx] at q222
  rw [c341, b341_0]
  unfold cps_
  cases hb : inR x 10000 with
  | false =>
    rw [hb, tr_f] at q222
    simp (disch := omega) only [gq_true, gb_true, gb_false, true_and, and_true, eq_self, not_false_eq_true, not_true_eq_false, true_or, or_true, false_or, or_false, false_and, and_false, c0_v, ci_v, cl_v, cf_v, pk_mul, nI_add, nI_clamp, nI_lt0, nI_0le, nI_eq0, nI_lt0r, nI_ltE, nI_leE, nI_eqE, nI_m1, in_t, ba0, ba1, Nat.one_ne_zero, Nat.reduceEqDiff, Nat.reduceLeDiff, Nat.add_eq_zero_iff, q222]
    rfl
  | true =>
    obtain ⟨k, hk, rfl⟩ := (inR_t (by decide)).mp hb
    rw [hb, tr_t] at q222
    simp (disch := omega) only [gq_true, gb_true, gb_false, true_and, and_true, eq_self, not_false_eq_true, not_true_eq_false, true_or, or_true, false_or, or_false, false_and, and_false, c0_v, ci_v, cl_v, cf_v, pk_mul, nI_add, nI_clamp, nI_lt0, nI_0le, nI_eq0, nI_lt0r, nI_ltE, nI_leE, nI_eqE, nI_m1, in_t, ba0, ba1, Nat.one_ne_zero, Nat.reduceEqDiff, Nat.reduceLeDiff, Nat.add_eq_zero_iff, q222, xk243 hR.1, xr243_15 hR.1, xk245 hR.1, hR.2.1, e0, eq_false (show ¬ N + 245 = 0 by omega)]
    rw [nI_toInt (by omega), nI_toInt (by omega)]
    by_cases h : cN s 4 + k ≤ 9999
    · rw [gb_neg (by omega), decide_eq_true (by omega)]; rfl
    · rw [gb_pos (by omega), decide_eq_false (by omega)]; rfl
theorem y343 (hR : RS m N s q) (a : Nat) (ha : a < 16) (x : Int32) : am_ca sa sv (d + 2) 343 [.ref (N + 243), .int (nI a), .int x] m = some (.inl (some (.int (tr_ (crv_ s a x)))), m) := by
  have q5 := y257 (sa := sa) (sv := sv) (d := d) hR a 5 (by omega)
  have q4 := y257 (sa := sa) (sv := sv) (d := d) hR a 4 (by omega)
  rw [c343, b343_0]
  simp (disch := omega) only [gq_true, gb_true, gb_false, true_and, and_true, eq_self, not_false_eq_true, not_true_eq_false, true_or, or_true, false_or, or_false, false_and, and_false, c0_v, ci_v, cl_v, cf_v, pk_mul, nI_add, nI_clamp, nI_lt0, nI_0le, nI_eq0, nI_lt0r, nI_ltE, nI_leE, nI_eqE, nI_m1, in_t, ba0, ba1, Nat.one_ne_zero, Nat.reduceEqDiff, Nat.reduceLeDiff, Nat.add_eq_zero_iff, xk243 hR.1, xr243_15 hR.1, xk245 hR.1, hR.2.1, eq_false (show ¬ N + 245 = 0 by omega), q5, q4]
  unfold crv_
  by_cases h1 : s 4 ≤ x
  · rw [gb_neg (Int32.not_lt.mpr h1)]
    by_cases h2 : x < s (594 + 6 * a + 5)
    · rw [gb_neg (Int32.not_le.mpr h2)]
      by_cases h3 : s (594 + 6 * a + 4) < x
      · rw [gb_neg (Int32.not_le.mpr h3), decide_eq_true ⟨h1, h2, h3⟩]; rfl
      · rw [gb_pos (Int32.not_lt.mp h3), decide_eq_false (fun z => h3 z.2.2)]; rfl
    · rw [gb_pos (Int32.not_lt.mp h2), decide_eq_false (fun z => h2 z.2.1)]; rfl
  · rw [gb_pos (Int32.not_le.mp h1), decide_eq_false (fun z => h1 z.1)]; rfl
/-- a change between laying aside and keeping -/
theorem tr_chg (h : TR m N X) (hs : X.s = gi_ m (N + 245)) (hq : X.q = gl_ m (N + 249)) (c : Int32) (hu5 : X.u ≤ 5) : ∃ m1, am_ca sa sv (d + 1) 249 [.ref (N + 243)] (si_ m (N + 243) 0 c) = some (.inl none, m1) ∧ RS m1 N X.s X.q ∧ gi_ m1 (N + 243) 0 = c ∧ (∀ {m2 : am_M} {P : Nat → Nat → Prop} {s' q'}, Fr P m1 m2 → (∀ a k, P a k → PT N a k ∨ N + 252 < a ∧ a < N + 265 ∨ (a = N + 243 ∧ k = 33)) → (∀ a k, P a k → ¬ a = N + 248 ∧ ¬ a = N + 252 ∧ (a = N + 243 → k = 33 ∨ k = 0 ∨ k = 42)) → RS m2 N s' q' → gi_ m2 (N + 243) 0 = c → ∃ m3, am_ca sa sv (d + 1) 251 [.ref (N + 243)] m2 = some (.inl none, m3) ∧ Fr (KR N) m m3 ∧ gi_ m3 (N + 243) 0 = c ∧ TR m3 N (X.rem.wS s' q') ∧ gi_ m3 (N + 245) = gi_ m2 (N + 245)) := by
  have f0 : Fr (fun a k => a = N + 243 ∧ k = 0) m (si_ m (N + 243) 0 c) := (Fr.refl _ _).si ⟨rfl, rfl⟩
  have hX0 := h.x.frg f0 (fun a k z => XF.a243 z.1 (by omega))
  obtain ⟨m1, a1, a2, a3, a4⟩ := y249 (sa := sa) (sv := sv) (d := d) hX0
  have f1 : Fr (fun a k => a = N + 248 ∨ a = N + 252 ∨ (a = N + 243 ∧ k = 0)) m m1 := (f0.mono fun a k z => Or.inr (Or.inr z)).trans (a2.mono fun a k z => by omega)
  have c1 : gi_ m1 (N + 243) 0 = c := (a2.2.1 _ _ (by omega)).trans (by rw [gi_si, if_pos ⟨rfl, rfl⟩])
  refine ⟨m1, a1, ⟨h.x.frg f1 (fun a k z => ?_), ?_, ?_⟩, c1, fun {m2 P s' q'} hf hp hp2 hR2 hc2 => ?_⟩
  · by_cases e : a = N + 243
    · exact XF.a243 e (by omega)
    · exact XF.hi (by omega)
  · rw [hs]; exact funext fun k => f1.2.1 _ _ (by omega)
  · rw [hq]; exact funext fun k => f1.2.2.1 _ _ (by omega)
  · have hf2 : Fr (fun a k => PT N a k ∨ N + 252 < a ∧ a < N + 265 ∨ (a = N + 243 ∧ k = 33)) m m2 := (f1.mono fun a k z => Or.inl (by unfold PT; omega)).trans (hf.mono hp)
    have xf : ∀ a k, (PT N a k ∨ N + 252 < a ∧ a < N + 265 ∨ (a = N + 243 ∧ k = 33)) → XF N a k := fun a k z => by
      rcases z with z | z | z
      · exact z.x
      · exact XF.hi (by omega)
      · exact XF.a243 z.1 (by omega)
    have no : ∀ a k, (PT N a k ∨ N + 252 < a ∧ a < N + 265 ∨ (a = N + 243 ∧ k = 33)) → ¬ a = N + 244 ∧ ¬ a = N + 246 ∧ ¬ a = N + 247 ∧ ¬ a = N + 250 ∧ ¬ a = N + 251 ∧ ¬ a = N + 265 ∧ ¬ (a = N + 243 ∧ (k = 23 ∨ k = 24 ∨ k = 44 ∨ k = 45)) := fun a k z => by
      unfold PT at z
      omega
    have k2 : ∀ k, ¬ k = 0 → ¬ k = 33 → ¬ k = 42 → gi_ m2 (N + 243) k = gi_ m (N + 243) k := fun k z z2 z4 => (hf.2.1 _ _ (fun z3 => by have := (hp2 _ _ z3).2.2 rfl; omega)).trans (f1.2.1 _ _ (by omega))
    have hT2 : TR m2 N (X.wS s' q') := TR.gen h hf2 (fun a k z => ⟨xf a k z, no a k z⟩) _ (fun k hk => congrFun hR2.2.1 k) (fun k hk => congrFun hR2.2.2 k) ((k2 2 (by omega) (by omega) (by omega)).trans h.n) (Nat.le_refl _) rfl ((k2 _ (by omega) (by omega) (by omega)).trans h.e1) ((k2 _ (by omega) (by omega) (by omega)).trans h.e2) ((k2 _ (by omega) (by omega) (by omega)).trans h.e3) rfl rfl rfl rfl rfl rfl rfl rfl
    obtain ⟨m3, b1, b2, b3⟩ := TR.keep (sa := sa) (sv := sv) (d := d) (a := X.s) (c := X.q) hT2 hu5 (fun k hk => (hf.2.1 _ _ (fun z => (hp2 _ _ z).1 rfl)).trans ((a3 k hk).trans ((f0.2.1 _ _ (by omega)).trans (h.s k hk)))) (fun k hk => (hf.2.2.1 _ _ (fun z => (hp2 _ _ z).2.1 rfl)).trans ((a4 k hk).trans ((f0.2.2.1 _ _ (by omega)).trans (h.q k hk))))
    exact ⟨m3, b1, (hf2.mono fun a k z => ⟨by unfold PT at z; omega, by unfold PT at z; omega, xf a k z⟩).trans (b2.mono fun a k z => z.k), (b2.2.1 _ _ (by unfold RK; omega)).trans hc2, b3, funext fun k => b2.2.1 _ _ (by unfold RK; omega)⟩
end R89
