/-! the class splits a text: the whole; its steps along the tokens -/
section T80
variable {sa sv d N : Nat} {m : am_M} {b : Nat → Nat} {n T i : Nat}
theorem BY.fr {P : Nat → Nat → Prop} {m m' : am_M} (h : BY m N b n) (hf : Fr P m m') (hp : ∀ k, ¬ P (N + 1) k) : BY m' N b n := ⟨h.1, fun k hk => ⟨(h.2 k hk).1, (hf.2.1 _ _ (hp k)).trans (h.2 k hk).2⟩⟩
theorem QT.fr {P : Nat → Nat → Prop} {m m' : am_M} (h : QT m N) (hf : Fr P m m') (hp : ∀ k, ¬ P (N + 3) k) : QT m' N := fun k hk => (hf.2.2.1 _ _ (hp k)).trans (h k hk)
theorem tS_eq (c : Nat) : tS c = true ↔ c = 32 ∨ c = 10 := decide_eq_true_iff
theorem x134_38 (hX : XS m N) (hQ : QT m N) (hB : BY m N b n) : ∀ k pos cnt j m1, n - pos ≤ k → pos ≤ n → cnt ≤ pos → j ≤ pos → rnd tS b n pos = St b n j → (∀ i, i < j → St b n i < n) → Fr (PA N) m m1 → TKS m1 N b n j → ∃ m' T, r134 sa sv (d + 3) 38 [some (.ref (N + 2)), some (.ref (N + 1)), some (.int (nI n)), some (.int (nI n)), some (.int (nI pos)), some (.int (nI cnt))] [] m1 = some (.inl none, m') ∧ Fr (PA N) m m' ∧ TKS m' N b n (T + 1) ∧ T ≤ 900 ∧ St b n T = n ∧ ∀ i, i < T → St b n i < n := by
  have h9 := hB.1
  intro k
  induction k with
  | zero =>
    intro pos cnt j m1 hk hp hc hj hr hi hF hT
    obtain rfl : pos = n := by omega
    have hX1 := hX.frg hF (fun a k z => z.x)
    rw [rnd_e (Nat.le_refl _)] at hr
    have hK : Kd b pos j = 0 := by unfold Kd; rw [if_neg (by omega)]
    have hV : Vl b pos j = 0 := by unfold Vl; rw [if_neg (by omega)]
    have ha := x139 (sa := sa) (sv := sv) (d := d + 2) hX1 j 0 pos 0 (by omega) hT.1
    refine ⟨addT m1 N j 0 pos 0, j, ?_, hF.trans (addT_fr _ _ _ _ _ _), hT.add hK.symm hr hV.symm, by omega, hr.symm, hi⟩
    rw [b134_38]
    simp (disch := omega) only [gq_true, gb_true, gb_false, true_and, and_true, eq_self, not_false_eq_true, not_true_eq_false, true_or, or_true, false_or, or_false, false_and, and_false, c0_v, ci_v, cl_v, cf_v, pk_mul, nI_add, nI_clamp, nI_lt0, nI_0le, nI_eq0, nI_lt0r, nI_ltE, nI_leE, nI_eqE, nI_m1, in_t, ba0, ba1, Nat.one_ne_zero, Nat.reduceEqDiff, Nat.reduceLeDiff, Nat.add_eq_zero_iff, xk2 hX1, ha, Nat.le_refl]
    rw [gb_same]
  | succ k ih =>
    intro pos cnt j m1 hk hp hc hj hr hi hF hT
    by_cases e : pos = n
    · exact ih pos cnt j m1 (by omega) hp hc hj hr hi hF hT
    · have hX1 := hX.frg hF (fun a k z => z.x)
      have hB1 := hB.fr hF (fun k => by unfold PA; omega)
      have hQ1 := hQ.fr hF (fun k => by unfold PA; omega)
      obtain ⟨c1, c2⟩ := hB1.2 pos (by omega)
      rw [b134_38]
      simp (disch := omega) only [gq_true, gb_true, gb_false, true_and, and_true, eq_self, not_false_eq_true, not_true_eq_false, true_or, or_true, false_or, or_false, false_and, and_false, c0_v, ci_v, cl_v, cf_v, pk_mul, nI_add, nI_clamp, nI_lt0, nI_0le, nI_eq0, nI_lt0r, nI_ltE, nI_leE, nI_eqE, nI_m1, in_t, ba0, ba1, Nat.one_ne_zero, Nat.reduceEqDiff, Nat.reduceLeDiff, Nat.add_eq_zero_iff, eq_false (show ¬ 900 ≤ cnt by omega), eq_false (show ¬ n ≤ pos by omega), xk1 hX1, c2, sb_eq c1 (show 10 ≤ 32 by decide) (by decide), sb_eq c1 (show 10 ≤ 10 by decide) (by decide), xk2 hX1]
      by_cases e1 : b pos = 32
      · rw [gb_pos e1]
        rw [rnd_t ((tS_eq _).mpr (Or.inl e1)) (by omega)] at hr
        exact ih (pos + 1) (cnt + 1) j m1 (by omega) (by omega) (by omega) (by omega) hr hi hF hT
      · rw [gb_neg e1]
        by_cases e2 : b pos = 10
        · rw [gb_pos e2]
          rw [rnd_t ((tS_eq _).mpr (Or.inr e2)) (by omega)] at hr
          exact ih (pos + 1) (cnt + 1) j m1 (by omega) (by omega) (by omega) (by omega) hr hi hF hT
        · rw [gb_neg e2, x135 hX1 hQ1 hB1 pos j (by omega) (by omega) hT.1, ci_v]
          have hs : tS (b pos) = false := by
            cases h : tS (b pos) with
            | false => rfl
            | true => rcases (tS_eq _).mp h with z | z <;> contradiction
          rw [rnd_f hs] at hr
          have hlt := tE_lt (b := b) (show pos < n by omega)
          have hK : tK b n pos = Kd b n j := by unfold Kd; rw [← hr, if_pos (by omega)]
          have hV : tV b n pos = Vl b n j := by unfold Vl; rw [← hr, if_pos (by omega)]
          have hnx : tp b n (j + 1) = tE b n pos := by rw [tp_s (by omega), ← hr]
          refine ih (tE b n pos) (cnt + 1) (j + 1) _ (by omega) (by omega) (by omega) (by omega) ?_ (fun i hi2 => ?_) (hF.trans (addT_fr _ _ _ _ _ _)) (hT.add hK hr hV)
          · rw [← hnx]; rfl
          · by_cases e3 : i = j
            · rw [e3, ← hr]; omega
            · exact hi i (by omega)
theorem XF.a2 {a k : Nat} (h : a = N + 2) (h2 : 4 ≤ k) : XF N a k := ⟨by omega, Or.inr (Or.inr (Or.inr (Or.inr (Or.inr (Or.inr (Or.inr (Or.inr (Or.inr (Or.inr (Or.inr (Or.inl (by omega))))))))))))⟩
theorem XF.a0 {a k : Nat} (h : a = N) (h2 : k = 1 ∨ k = 9 ∨ k = 11 ∨ k = 12 ∨ k = 13) : XF N a k := ⟨by omega, Or.inr (Or.inr (Or.inr (Or.inl (by omega))))⟩
def PB (N a k : Nat) : Prop := a = N + 4 ∨ a = N + 5 ∨ a = N + 6 ∨ (a = N + 2 ∧ 4 ≤ k)
theorem PB.x {N a k : Nat} (h : PB N a k) : XF N a k := by
  rcases h with h | h | h | ⟨h, h2⟩
  · exact PA.x (Or.inl h)
  · exact PA.x (Or.inr (Or.inl h))
  · exact PA.x (Or.inr (Or.inr (Or.inl h)))
  · exact XF.a2 h h2
/-- the class stands at token i of a text whose end is token T -/
def CT (m : am_M) (N : Nat) (b : Nat → Nat) (n T i : Nat) : Prop := XS m N ∧ TKS m N b n (T + 1) ∧ T ≤ 900 ∧ St b n T = n ∧ (∀ i, i < T → St b n i < n) ∧ i ≤ T ∧ gi_ m (N + 2) 5 = nI i ∧ gi_ m (N + 2) 8 = nI 0 ∧ n ≤ 900 ∧ gi_ m (N + 2) 6 = nI 0 ∧ gi_ m (N + 2) 7 = -1
theorem x134 (hX : XS m N) (hQ : QT m N) (hB : BY m N b n) : ∃ m' T, am_ca sa sv (d + 4) 134 [.ref (N + 2), .ref (N + 1), .int (nI n)] m = some (.inl none, m') ∧ Fr (PB N) m m' ∧ CT m' N b n T 0 ∧ gi_ m' (N + 2) 6 = nI 0 ∧ gi_ m' (N + 2) 7 = -1 := by
  have h9 := hB.1
  have hF0 : Fr (PB N) m (si_ (si_ (si_ (si_ (si_ m (N + 2) 6 (nI 0)) (N + 2) 7 (-1 : Int32)) (N + 2) 8 (nI 0)) (N + 2) 4 (nI 0)) (N + 2) 5 (nI 0)) :=
    (((((Fr.refl _ m).si (Or.inr (Or.inr (Or.inr ⟨rfl, by omega⟩)))).si (Or.inr (Or.inr (Or.inr ⟨rfl, by omega⟩)))).si (Or.inr (Or.inr (Or.inr ⟨rfl, by omega⟩)))).si (Or.inr (Or.inr (Or.inr ⟨rfl, by omega⟩)))).si (Or.inr (Or.inr (Or.inr ⟨rfl, by omega⟩)))
  have z4 : gi_ (si_ (si_ (si_ (si_ (si_ m (N + 2) 6 (nI 0)) (N + 2) 7 (-1 : Int32)) (N + 2) 8 (nI 0)) (N + 2) 4 (nI 0)) (N + 2) 5 (nI 0)) (N + 2) 4 = nI 0 := by rw [gi_si, if_neg (by omega), gi_si, if_pos ⟨rfl, rfl⟩]
  have z5 : gi_ (si_ (si_ (si_ (si_ (si_ m (N + 2) 6 (nI 0)) (N + 2) 7 (-1 : Int32)) (N + 2) 8 (nI 0)) (N + 2) 4 (nI 0)) (N + 2) 5 (nI 0)) (N + 2) 5 = nI 0 := by rw [gi_si, if_pos ⟨rfl, rfl⟩]
  have z6 : gi_ (si_ (si_ (si_ (si_ (si_ m (N + 2) 6 (nI 0)) (N + 2) 7 (-1 : Int32)) (N + 2) 8 (nI 0)) (N + 2) 4 (nI 0)) (N + 2) 5 (nI 0)) (N + 2) 6 = nI 0 := by rw [gi_si, if_neg (by omega), gi_si, if_neg (by omega), gi_si, if_neg (by omega), gi_si, if_neg (by omega), gi_si, if_pos ⟨rfl, rfl⟩]
  have z7 : gi_ (si_ (si_ (si_ (si_ (si_ m (N + 2) 6 (nI 0)) (N + 2) 7 (-1 : Int32)) (N + 2) 8 (nI 0)) (N + 2) 4 (nI 0)) (N + 2) 5 (nI 0)) (N + 2) 7 = -1 := by rw [gi_si, if_neg (by omega), gi_si, if_neg (by omega), gi_si, if_neg (by omega), gi_si, if_pos ⟨rfl, rfl⟩]
  have z8 : gi_ (si_ (si_ (si_ (si_ (si_ m (N + 2) 6 (nI 0)) (N + 2) 7 (-1 : Int32)) (N + 2) 8 (nI 0)) (N + 2) 4 (nI 0)) (N + 2) 5 (nI 0)) (N + 2) 8 = nI 0 := by rw [gi_si, if_neg (by omega), gi_si, if_neg (by omega), gi_si, if_pos ⟨rfl, rfl⟩]
  rw [c134, b134_0]
  simp (disch := omega) only [gq_true, gb_true, gb_false, true_and, and_true, eq_self, not_false_eq_true, not_true_eq_false, true_or, or_true, false_or, or_false, false_and, and_false, c0_v, ci_v, cl_v, cf_v, pk_mul, nI_add, nI_clamp, nI_lt0, nI_0le, nI_eq0, nI_lt0r, nI_ltE, nI_leE, nI_eqE, nI_m1, in_t, ba0, ba1, Nat.one_ne_zero, Nat.reduceEqDiff, Nat.reduceLeDiff, Nat.add_eq_zero_iff, xk2 hX, xk1 hX, Nat.reduceEqDiff, Nat.reduceLeDiff]
  rw [show (if 900 < n then nI 900 else nI n) = nI n by rw [if_neg (by omega)]]
  generalize si_ (si_ (si_ (si_ (si_ m (N + 2) 6 (nI 0)) (N + 2) 7 (-1 : Int32)) (N + 2) 8 (nI 0)) (N + 2) 4 (nI 0)) (N + 2) 5 (nI 0) = m1 at *
  have hX1 := hX.frg hF0 (fun a k z => z.x)
  have hB1 := hB.fr hF0 (fun k => by unfold PB; omega)
  have hQ1 := hQ.fr hF0 (fun k => by unfold PB; omega)
  obtain ⟨m', T, g1, g2, g3, g4, g5, g6⟩ := x134_38 (sa := sa) (sv := sv) (d := d) hX1 hQ1 hB1 n 0 0 0 m1 (by omega) (by omega) (Nat.le_refl _) (Nat.le_refl _) rfl (fun i hi => absurd hi (by omega)) (Fr.refl _ _) ⟨z4, fun i hi => absurd hi (by omega)⟩
  have keep : ∀ k, ¬ k = 4 → gi_ m' (N + 2) k = gi_ m1 (N + 2) k := fun k hk => g2.2.1 _ _ (by unfold PA; omega)
  exact ⟨m', T, g1, hF0.trans (g2.mono fun a k z => by unfold PA at z; unfold PB; omega), ⟨hX1.frg g2 (fun a k z => z.x), g3, g4, g5, g6, Nat.zero_le _, (keep 5 (by omega)).trans z5, (keep 8 (by omega)).trans z8, h9, (keep 6 (by omega)).trans z6, (keep 7 (by omega)).trans z7⟩, (keep 6 (by omega)).trans z6, (keep 7 (by omega)).trans z7⟩
/-! steps -/
def P5 (N a k : Nat) : Prop := a = N + 2 ∧ k = 5
def P8 (N a k : Nat) : Prop := a = N + 2 ∧ 5 ≤ k ∧ k ≤ 8
theorem CT.fr {P : Nat → Nat → Prop} {m m' : am_M} (h : CT m N b n T i) (hf : Fr P m m') (hp : ∀ a k, P a k → XF N a k ∧ ¬ a = N + 2 ∧ ¬ a = N + 4 ∧ ¬ a = N + 5 ∧ ¬ a = N + 6) : CT m' N b n T i := by
  obtain ⟨h1, ⟨h2, h2'⟩, h3, h4, h5, h6, h7, h8, h9⟩ := h
  have e : ∀ a k, (a = N + 2 ∨ a = N + 4 ∨ a = N + 5) → gi_ m' a k = gi_ m a k := fun a k z => hf.2.1 _ _ (fun y => by have := (hp _ _ y).2; omega)
  have e6 : ∀ k, gl_ m' (N + 6) k = gl_ m (N + 6) k := fun k => hf.2.2.1 _ _ (fun y => by have := (hp _ _ y).2; omega)
  exact ⟨h1.frg hf (fun a k z => (hp a k z).1), ⟨(e _ _ (by omega)).trans h2, fun i hi => ⟨(e _ _ (by omega)).trans (h2' i hi).1, (e _ _ (by omega)).trans (h2' i hi).2.1, (e6 i).trans (h2' i hi).2.2⟩⟩, h3, h4, h5, h6, (e _ _ (by omega)).trans h7, (e _ _ (by omega)).trans h8, h9.1, (e _ _ (by omega)).trans h9.2.1, (e _ _ (by omega)).trans h9.2.2⟩
theorem CT.k0 (h : CT m N b n T i) : i < T ∨ (i = T ∧ Kd b n i = 0) := by
  obtain ⟨h1, h2, h3, h4, h5, h6, h7, h8, h9⟩ := h
  by_cases e : i = T
  · refine Or.inr ⟨e, ?_⟩
    unfold Kd; rw [e, if_neg (by omega)]
  · exact Or.inl (by omega)
theorem CT.lt (h : CT m N b n T i) (hk : ¬ Kd b n i = 0) : i < T := by
  rcases h.k0 with z | ⟨-, z⟩
  · exact z
  · exact absurd z hk
theorem x142 (h : CT m N b n T i) : am_ca sa sv (d + 1) 142 [.ref (N + 2)] m = some (.inl (some (.int (nI (Kd b n i)))), m) := by
  obtain ⟨hX, ⟨h2, h2'⟩, h3, h4, h5, h6, h7, h8, h9⟩ := h
  rw [c142, b142_0]
  simp (disch := omega) only [gq_true, gb_true, gb_false, true_and, and_true, eq_self, not_false_eq_true, not_true_eq_false, true_or, or_true, false_or, or_false, false_and, and_false, c0_v, ci_v, cl_v, cf_v, pk_mul, nI_add, nI_clamp, nI_lt0, nI_0le, nI_eq0, nI_lt0r, nI_ltE, nI_leE, nI_eqE, nI_m1, in_t, ba0, ba1, Nat.one_ne_zero, Nat.reduceEqDiff, Nat.reduceLeDiff, Nat.add_eq_zero_iff, xk2 hX, h7, h2, eq_false (show ¬ T + 1 ≤ i by omega), xr2_1 hX, xk4 hX, (h2' i (by omega)).1]
theorem x147 (h : CT m N b n T i) : am_ca sa sv (d + 1) 147 [.ref (N + 2)] m = some (.inl (some (.long (Vl b n i))), m) := by
  obtain ⟨hX, ⟨h2, h2'⟩, h3, h4, h5, h6, h7, h8, h9⟩ := h
  rw [c147, b147_0]
  simp (disch := omega) only [gq_true, gb_true, gb_false, true_and, and_true, eq_self, not_false_eq_true, not_true_eq_false, true_or, or_true, false_or, or_false, false_and, and_false, c0_v, ci_v, cl_v, cf_v, pk_mul, nI_add, nI_clamp, nI_lt0, nI_0le, nI_eq0, nI_lt0r, nI_ltE, nI_leE, nI_eqE, nI_m1, in_t, ba0, ba1, Nat.one_ne_zero, Nat.reduceEqDiff, Nat.reduceLeDiff, Nat.add_eq_zero_iff, xk2 hX, h7, h2, eq_false (show ¬ T + 1 ≤ i by omega), xr2_3 hX, xk6 hX, (h2' i (by omega)).2.2]
theorem CT.skip (h : CT m N b n T i) (hi : i < T) : CT (si_ m (N + 2) 5 (nI (i + 1))) N b n T (i + 1) := by
  obtain ⟨h1, ⟨h2, h2'⟩, h3, h4, h5, h6, h7, h8, h9⟩ := h
  refine ⟨h1.frg (P := P5 N) ((Fr.refl _ _).si ⟨rfl, rfl⟩) (fun a k z => XF.a2 z.1 (by have := z.2; omega)), ⟨by rw [gi_si, if_neg (by omega)]; exact h2, fun j hj => ⟨?_, ?_, ?_⟩⟩, h3, h4, h5, by omega, by rw [gi_si, if_pos ⟨rfl, rfl⟩], by rw [gi_si, if_neg (by omega)]; exact h8, h9.1, by rw [gi_si, if_neg (by omega)]; exact h9.2.1, by rw [gi_si, if_neg (by omega)]; exact h9.2.2⟩
  · rw [gi_si, if_neg (by omega)]; exact (h2' j hj).1
  · rw [gi_si, if_neg (by omega)]; exact (h2' j hj).2.1
  · exact (h2' j hj).2.2
theorem x143 (h : CT m N b n T i) (hi : i < T) : am_ca sa sv (d + 1) 143 [.ref (N + 2)] m = some (.inl none, si_ m (N + 2) 5 (nI (i + 1))) := by
  obtain ⟨hX, ⟨h2, h2'⟩, h3, h4, h5, h6, h7, h8, h9⟩ := h
  rw [c143, b143_0]
  simp (disch := omega) only [gq_true, gb_true, gb_false, true_and, and_true, eq_self, not_false_eq_true, not_true_eq_false, true_or, or_true, false_or, or_false, false_and, and_false, c0_v, ci_v, cl_v, cf_v, pk_mul, nI_add, nI_clamp, nI_lt0, nI_0le, nI_eq0, nI_lt0r, nI_ltE, nI_leE, nI_eqE, nI_m1, in_t, ba0, ba1, Nat.one_ne_zero, Nat.reduceEqDiff, Nat.reduceLeDiff, Nat.add_eq_zero_iff, xk2 hX, h7, h2, show nI (T + 1) - nI 1 = nI T from dm_s T, eq_false (show ¬ T ≤ i by omega)]
/-- the class fails at token i -/
def fl2 (m : am_M) (N c p : Nat) : am_M := si_ (si_ m (N + 2) 6 (nI c)) (N + 2) 7 (nI p)
theorem x149 (h : CT m N b n T i) (c : Nat) : am_ca sa sv (d + 1) 149 [.ref (N + 2), .int (nI c)] m = some (.inr 1, th_ (fl2 m N c (St b n i))) := by
  obtain ⟨hX, ⟨h2, h2'⟩, h3, h4, h5, h6, h7, h8, h9⟩ := h
  have e5 : gi_ (si_ m (N + 2) 6 (nI c)) (N + 2) 5 = nI i := by rw [gi_si, if_neg (by omega)]; exact h7
  have e4 : gi_ (si_ m (N + 2) 6 (nI c)) (N + 2) 4 = nI (T + 1) := by rw [gi_si, if_neg (by omega)]; exact h2
  have es : gi_ (si_ m (N + 2) 6 (nI c)) (N + 5) i = nI (St b n i) := by rw [gi_si, if_neg (by omega)]; exact (h2' i (by omega)).2.1
  rw [c149, b149_0]
  simp (disch := omega) only [gq_true, gb_true, gb_false, true_and, and_true, eq_self, not_false_eq_true, not_true_eq_false, true_or, or_true, false_or, or_false, false_and, and_false, c0_v, ci_v, cl_v, cf_v, pk_mul, nI_add, nI_clamp, nI_lt0, nI_0le, nI_eq0, nI_lt0r, nI_ltE, nI_leE, nI_eqE, nI_m1, in_t, ba0, ba1, Nat.one_ne_zero, Nat.reduceEqDiff, Nat.reduceLeDiff, Nat.add_eq_zero_iff, xk2 hX, e5, e4, eq_false (show ¬ T + 1 ≤ i by omega), xr2_2 hX, xk5 hX, es]
  rfl
end T80
