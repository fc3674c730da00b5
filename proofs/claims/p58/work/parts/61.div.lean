/-! the class divides an income -/
def DL (N : Nat) (a k : Nat) : Prop := a = N + 22 ∨ (a = N + 21 ∧ k = 2)
def DC (N : Nat) (a k : Nat) : Prop := a = N + 18 ∨ DL N a k
/-- the division stands prepared for a day -/
def PD (m : am_M) (N o : Nat) (s : Nat → Int32) (q : Nat → Int64) (day : Nat) : Prop :=
  XS m N ∧ OS m o ∧ OV m o s q ∧ N + 27 ≤ o ∧ gr_ m (N + 14) 7 = o + 1 ∧ gr_ m (N + 14) 8 = o + 13 ∧ gr_ m (N + 14) 9 = o + 15 ∧
  (∀ u, u < 12 → gi_ m (N + 15) u = nI (if u < cN s 1 then spl_ s u day else 0)) ∧
  (∀ u p, u < 12 → p < 10 → gi_ m (N + 16) (u * 10 + p) = nI (msk_ (asm_ s u p day) (cN s 2))) ∧
  (∀ p, p < 10 → gi_ m (N + 17) p = nI (msk_ (fun a => decide (cN s (690 + 6 * a + 1) = p)) (cN s 3)))
theorem OV.fr {P : Nat → Nat → Prop} {m m' : am_M} {o : Nat} {s : Nat → Int32} {q : Nat → Int64} (h : OV m o s q) (hf : Fr P m m') (hp : ∀ a k, o ≤ a → a < o + 27 → ¬ P a k) : OV m' o s q := by
  have g : ∀ j k, j < 27 → gi_ m' (o + j) k = gi_ m (o + j) k := fun j k hj => hf.2.1 _ _ (hp _ _ (by omega) (by omega))
  have g0 : ∀ k, gi_ m' o k = gi_ m o k := fun k => g 0 k (by omega)
  have l : ∀ j k, j < 27 → gl_ m' (o + j) k = gl_ m (o + j) k := fun j k hj => hf.2.2.1 _ _ (hp _ _ (by omega) (by omega))
  unfold OV at h ⊢
  simp (disch := omega) only [g, g0, l]
  exact h
theorem OS.fr' {P : Nat → Nat → Prop} {m m' : am_M} {o : Nat} (h : OS m o) (hf : Fr P m m') (hp : ∀ a k, o ≤ a → a < o + 27 → ¬ P a k) : OS m' o := by
  refine h.fr hf (fun x hx => hp _ _ (Nat.le_add_right _ _) ?_) (fun x hx => hp _ _ (Nat.le_add_right _ _) ?_)
  · have := List.all_eq_true.mp (by decide : orf_.all (fun x => decide (x.1 < 27)) = true) x hx
    have := of_decide_eq_true this
    omega
  · have := List.all_eq_true.mp (by decide : owd_.all (fun x => decide (x.1 < 27)) = true) x hx
    have := of_decide_eq_true this
    omega
theorem XS.frL {m m' : am_M} {N : Nat} (h : XS m N) (hf : Fr (DC N) m m') : XS m' N := by
  refine h.fr hf (fun x hx => ?_) (fun x hx => ?_)
  · have h2 := of_decide_eq_true (List.all_eq_true.mp (by decide : xr_.all (fun x => decide (¬ (x.1 = 18 ∨ x.1 = 22 ∨ (x.1 = 21 ∧ x.2.1 = 2)))) = true) x hx)
    rintro (z | z | ⟨z, z2⟩)
    · exact h2 (Or.inl (by omega))
    · exact h2 (Or.inr (Or.inl (by omega)))
    · exact h2 (Or.inr (Or.inr ⟨by omega, z2⟩))
  · have h2 := of_decide_eq_true (List.all_eq_true.mp (by decide : xw_.all (fun x => decide (¬ (x.1 = 18 ∨ x.1 = 22))) = true) x hx)
    rintro (z | z | ⟨z, z2⟩)
    · exact h2 (Or.inl (by omega))
    · exact h2 (Or.inr (by omega))
    · cases z2
theorem PD.fr {m m' : am_M} {N o : Nat} {s : Nat → Int32} {q : Nat → Int64} {day : Nat} (h : PD m N o s q day) (hf : Fr (DC N) m m') : PD m' N o s q day := by
  obtain ⟨h1, h2, h3, h4, h5, h6, h7, h8, h9, h10⟩ := h
  have np : ∀ a k, o ≤ a → a < o + 27 → ¬ DC N a k := by
    rintro a k ha _ (z | z | ⟨z, -⟩) <;> omega
  have gi : ∀ j k, (j = 15 ∨ j = 16 ∨ j = 17) → gi_ m' (N + j) k = gi_ m (N + j) k := fun j k hj => hf.2.1 _ _ (by rintro (z | z | ⟨z, -⟩) <;> omega)
  have gr : ∀ k, gr_ m' (N + 14) k = gr_ m (N + 14) k := fun k => hf.2.2.2.1 _ _ (by rintro (z | z | ⟨z, -⟩) <;> omega)
  exact ⟨h1.frL hf, h2.fr' hf np, h3.fr hf np, h4, (gr 7).trans h5, (gr 8).trans h6, (gr 9).trans h7, fun u hu => (gi 15 u (by omega)).trans (h8 u hu), fun u p hu hp => (gi 16 _ (by omega)).trans (h9 u p hu hp), fun p hp => (gi 17 p (by omega)).trans (h10 p hp)⟩
theorem DL.c {N a k : Nat} (h : DL N a k) : DC N a k := Or.inr h
theorem asg_tail (s : Nat → Int32) (w p part day : Nat) {n k : Nat} (hn : n ≤ k) (h : ∀ a, n ≤ a → a < k → asm_ s w p day a = false) : asg_ s w p part day k = asg_ s w p part day n ∧ asu_ s w p part day k = asu_ s w p part day n := by
  obtain ⟨j, rfl⟩ := Nat.exists_eq_add_of_le hn
  clear hn
  induction j with
  | zero => exact ⟨rfl, rfl⟩
  | succ j ih =>
    obtain ⟨a1, a2⟩ := ih fun a h1 h2 => h a h1 (by omega)
    have hf := h (n + j) (by omega) (by omega)
    refine ⟨?_, ?_⟩
    · show asg_ s w p part day (n + j) ++ (if asm_ s w p day (n + j) = true ∧ 0 < part * cN s (594 + 6 * (n + j) + 3) / 100 then [(w, cN s (594 + 6 * (n + j) + 2), part * cN s (594 + 6 * (n + j) + 3) / 100, 0)] else []) = _
      rw [hf, if_neg (by rintro ⟨z, -⟩; cases z), List.append_nil, a1]
    · show asu_ s w p part day (n + j) + (bif asm_ s w p day (n + j) then part * cN s (594 + 6 * (n + j) + 3) / 100 else 0) = _
      rw [hf, a2]; rfl
theorem pl_0 (s : Nat → Int32) (w p day : Nat) : pl_ s w p 0 day = [] := by
  have h : ∀ n, asg_ s w p 0 day n = [] := by
    intro n
    induction n with
    | zero => rfl
    | succ n ih => rw [asg_, ih, if_neg (by rintro ⟨-, z⟩; rw [Nat.zero_mul] at z; cases z)]; rfl
  rw [pl_, h, if_neg (by omega)]; rfl
theorem pct_nI {a p : Nat} (h : a * p < 2 ^ 31) : pct_ (nI a) (nI p) = nI (a * p / 100) := by
  unfold pct_
  rw [pk_mul, pk_div h (by decide) (by decide)]
section R61
variable {sa sv d N o : Nat} {m : am_M} {s : Nat → Int32} {q : Nat → Int64}
theorem x33 (a n i : Nat) (hk : gk_ m a = (2, n)) (hn : n < 2 ^ 31) (hi : i < n) : am_ca sa sv (d + 1) 33 [.ref a, .int (nI i)] m = some (.inl (some (.int (gi_ m a i))), m) := by
  rw [c33, b33_0]
  simp (disch := omega) only [gq_true, gb_true, gb_false, true_and, and_true, eq_self, not_false_eq_true, not_true_eq_false, true_or, or_true, false_or, or_false, false_and, and_false, c0_v, ci_v, cl_v, cf_v, pk_mul, nI_add, nI_clamp, nI_lt0, nI_0le, nI_eq0, nI_lt0r, nI_ltE, nI_leE, nI_eqE, nI_m1, in_t, ba0, ba1, Nat.one_ne_zero, Nat.reduceEqDiff, Nat.reduceLeDiff, Nat.add_eq_zero_iff, hk]
  rw [gb_neg (by omega)]
theorem x34 (a n i : Nat) (v : Int32) (hk : gk_ m a = (2, n)) (hn : n < 2 ^ 31) (hi : i < n) : am_ca sa sv (d + 1) 34 [.ref a, .int (nI i), .int v] m = some (.inl none, si_ m a i (gi_ m a i + v)) := by
  rw [c34, b34_0]
  simp (disch := omega) only [gq_true, gb_true, gb_false, true_and, and_true, eq_self, not_false_eq_true, not_true_eq_false, true_or, or_true, false_or, or_false, false_and, and_false, c0_v, ci_v, cl_v, cf_v, pk_mul, nI_add, nI_clamp, nI_lt0, nI_0le, nI_eq0, nI_lt0r, nI_ltE, nI_leE, nI_eqE, nI_m1, in_t, ba0, ba1, Nat.one_ne_zero, Nat.reduceEqDiff, Nat.reduceLeDiff, Nat.add_eq_zero_iff, hk]
  rw [gb_neg (by omega)]
theorem x368 (a n : Nat) (v : Int32) (hk : gk_ m a = (2, n)) (hn : n < 2 ^ 31) : ∃ m', am_ca sa sv (d + 1) 368 [.ref a, .int v] m = some (.inl none, m') ∧ Fr (fun b _ => b = a) m m' ∧ ∀ k, k < n → gi_ m' a k = v := by
  obtain ⟨m', h1, h2, h3⟩ := lp_inv (fun i m1 => r368 sa sv d 5 [some (.ref a), some (.int v), some (.int (nI i)), some (.int (nI n))] [] m1) (fun i m1 => Fr (fun b _ => b = a) m m1 ∧ ∀ k, k < i → gi_ m1 a k = v) n (fun i m1 hi ⟨g1, g2⟩ => by
    refine ⟨si_ m1 a i v, ?_, g1.si rfl, fun k hk2 => ?_⟩
    · show r368 sa sv d 5 _ [] m1 = _
      have hk1 : gk_ m1 a = (2, n) := (congrFun g1.1.1 a).trans hk
      rw [b368_5]
      simp (disch := omega) only [gq_true, gb_true, gb_false, true_and, and_true, eq_self, not_false_eq_true, not_true_eq_false, true_or, or_true, false_or, or_false, false_and, and_false, c0_v, ci_v, cl_v, cf_v, pk_mul, nI_add, nI_clamp, nI_lt0, nI_0le, nI_eq0, nI_lt0r, nI_ltE, nI_leE, nI_eqE, nI_m1, in_t, ba0, ba1, Nat.one_ne_zero, Nat.reduceEqDiff, Nat.reduceLeDiff, Nat.add_eq_zero_iff, hk1]
      rw [gb_neg (by omega)]
    · rw [gi_si]
      by_cases e : k = i
      · rw [if_pos ⟨rfl, e⟩]
      · rw [if_neg (fun z => e z.2)]; exact g2 k (by omega)) m ⟨Fr.refl _ _, fun k h => by omega⟩
  refine ⟨m', ?_, h2, h3⟩
  rw [c368, b368_0]
  simp (disch := omega) only [gq_true, gb_true, gb_false, true_and, and_true, eq_self, not_false_eq_true, not_true_eq_false, true_or, or_true, false_or, or_false, false_and, and_false, c0_v, ci_v, cl_v, cf_v, pk_mul, nI_add, nI_clamp, nI_lt0, nI_0le, nI_eq0, nI_lt0r, nI_ltE, nI_leE, nI_eqE, nI_m1, in_t, ba0, ba1, Nat.one_ne_zero, Nat.reduceEqDiff, Nat.reduceLeDiff, Nat.add_eq_zero_iff, hk]
  refine h1.trans ?_
  show r368 sa sv d 5 _ [] m' = _
  rw [b368_5]
  simp (disch := omega) only [gq_true, gb_true, gb_false, true_and, and_true, eq_self, not_false_eq_true, not_true_eq_false, true_or, or_true, false_or, or_false, false_and, and_false, c0_v, ci_v, cl_v, cf_v, pk_mul, nI_add, nI_clamp, nI_lt0, nI_0le, nI_eq0, nI_lt0r, nI_ltE, nI_leE, nI_eqE, nI_m1, in_t, ba0, ba1, Nat.one_ne_zero, Nat.reduceEqDiff, Nat.reduceLeDiff, Nat.add_eq_zero_iff, Nat.le_refl]
theorem x367 (a n : Nat) (v : Int64) (hk : gk_ m a = (4, n)) (hn : n < 2 ^ 31) : ∃ m', am_ca sa sv (d + 1) 367 [.ref a, .long v] m = some (.inl none, m') ∧ Fr (fun b _ => b = a) m m' ∧ ∀ k, k < n → gl_ m' a k = v := by
  obtain ⟨m', h1, h2, h3⟩ := lp_inv (fun i m1 => r367 sa sv d 6 [some (.ref a), some (.long v), none, some (.int (nI i)), some (.int (nI n))] [] m1) (fun i m1 => Fr (fun b _ => b = a) m m1 ∧ ∀ k, k < i → gl_ m1 a k = v) n (fun i m1 hi ⟨g1, g2⟩ => by
    refine ⟨sl_ m1 a i v, ?_, g1.sl rfl, fun k hk2 => ?_⟩
    · show r367 sa sv d 6 _ [] m1 = _
      have hk1 : gk_ m1 a = (4, n) := (congrFun g1.1.1 a).trans hk
      rw [b367_6]
      simp (disch := omega) only [gq_true, gb_true, gb_false, true_and, and_true, eq_self, not_false_eq_true, not_true_eq_false, true_or, or_true, false_or, or_false, false_and, and_false, c0_v, ci_v, cl_v, cf_v, pk_mul, nI_add, nI_clamp, nI_lt0, nI_0le, nI_eq0, nI_lt0r, nI_ltE, nI_leE, nI_eqE, nI_m1, in_t, ba0, ba1, Nat.one_ne_zero, Nat.reduceEqDiff, Nat.reduceLeDiff, Nat.add_eq_zero_iff, hk1]
      rw [gb_neg (by omega)]
    · rw [gl_sl]
      by_cases e : k = i
      · rw [if_pos ⟨rfl, e⟩]
      · rw [if_neg (fun z => e z.2)]; exact g2 k (by omega)) m ⟨Fr.refl _ _, fun k h => by omega⟩
  refine ⟨m', ?_, h2, h3⟩
  rw [c367, b367_0]
  simp (disch := omega) only [gq_true, gb_true, gb_false, true_and, and_true, eq_self, not_false_eq_true, not_true_eq_false, true_or, or_true, false_or, or_false, false_and, and_false, c0_v, ci_v, cl_v, cf_v, pk_mul, nI_add, nI_clamp, nI_lt0, nI_0le, nI_eq0, nI_lt0r, nI_ltE, nI_leE, nI_eqE, nI_m1, in_t, ba0, ba1, Nat.one_ne_zero, Nat.reduceEqDiff, Nat.reduceLeDiff, Nat.add_eq_zero_iff, hk]
  refine h1.trans ?_
  show r367 sa sv d 6 _ [] m' = _
  rw [b367_6]
  simp (disch := omega) only [gq_true, gb_true, gb_false, true_and, and_true, eq_self, not_false_eq_true, not_true_eq_false, true_or, or_true, false_or, or_false, false_and, and_false, c0_v, ci_v, cl_v, cf_v, pk_mul, nI_add, nI_clamp, nI_lt0, nI_0le, nI_eq0, nI_lt0r, nI_ltE, nI_leE, nI_eqE, nI_m1, in_t, ba0, ba1, Nat.one_ne_zero, Nat.reduceEqDiff, Nat.reduceLeDiff, Nat.add_eq_zero_iff, Nat.le_refl]
theorem x128 {t w n : Nat} (h : TS m t w n) (hn : n < 2 ^ 20) (i c : Nat) (v : Int32) (hi : i * w + c < n) : am_ca sa sv (d + 1) 128 [.ref t, .int (nI i), .int (nI c), .int v] m = some (.inl none, si_ m (t + 1) (i * w + c) v) := by
  obtain ⟨h1, h2, h3, h4⟩ := h
  rw [c128, b128_0]
  simp (disch := omega) only [gq_true, gb_true, gb_false, true_and, and_true, eq_self, not_false_eq_true, not_true_eq_false, true_or, or_true, false_or, or_false, false_and, and_false, c0_v, ci_v, cl_v, cf_v, pk_mul, nI_add, nI_clamp, nI_lt0, nI_0le, nI_eq0, nI_lt0r, nI_ltE, nI_leE, nI_eqE, nI_m1, in_t, ba0, ba1, Nat.one_ne_zero, Nat.reduceEqDiff, Nat.reduceLeDiff, Nat.add_eq_zero_iff, h1, h2, h3, h4, and_false, Nat.not_le.mpr hi]
/-- a line more -/
theorem x129 {t : Nat} (h : TS m t 4 256) {l : List Ln} (hl : l.length < 64) (hr : gi_ m t 2 = nI l.length) (hL : LN m (t + 1) l) (x : Ln) (hx : x.2.2.2 = 0) : ∃ m', am_ca sa sv (d + 1) 129 [.ref t, .int (nI x.1), .int (nI x.2.1), .int (nI x.2.2.1), .int (nI 0)] m = some (.inl none, m') ∧ Fr (fun a k => a = t + 1 ∨ (a = t ∧ k = 2)) m m' ∧ LN m' (t + 1) (l ++ [x]) ∧ gi_ m' t 2 = nI (l ++ [x]).length := by
  obtain ⟨h1, h2, h3, h4⟩ := h
  refine ⟨si_ (si_ (si_ (si_ (si_ m (t + 1) (l.length * 4) (nI x.1)) (t + 1) (l.length * 4 + 1) (nI x.2.1)) (t + 1) (l.length * 4 + 2) (nI x.2.2.1)) (t + 1) (l.length * 4 + 3) (nI 0)) t 2 (nI (l.length + 1)), ?_, ?_, ?_, ?_⟩
  · rw [c129, b129_0]
    simp (disch := omega) only [gq_true, gb_true, gb_false, true_and, and_true, eq_self, not_false_eq_true, not_true_eq_false, true_or, or_true, false_or, or_false, false_and, and_false, c0_v, ci_v, cl_v, cf_v, pk_mul, nI_add, nI_clamp, nI_lt0, nI_0le, nI_eq0, nI_lt0r, nI_ltE, nI_leE, nI_eqE, nI_m1, in_t, ba0, ba1, Nat.one_ne_zero, Nat.reduceEqDiff, Nat.reduceLeDiff, Nat.add_eq_zero_iff, h1, h2, h3, h4, hr, and_false, gi_si, Nat.left_eq_add, Nat.succ_ne_self, if_false]
    rw [gb_neg (by omega)]
  · exact ((((((Fr.refl _ m).si (Or.inl rfl)).si (Or.inl rfl)).si (Or.inl rfl)).si (Or.inl rfl)).si (Or.inr ⟨rfl, rfl⟩))
  · refine hL.push (fun k hk => ?_) ?_ ?_ ?_ ?_
    · simp (disch := omega) only [gi_si, if_neg]
    · simp (disch := omega) only [gi_si, if_neg, if_pos, and_self, if_true]
    · simp (disch := omega) only [gi_si, if_neg, if_pos, and_self, if_true]
    · simp (disch := omega) only [gi_si, if_neg, if_pos, and_self, if_true]
    · rw [hx]; simp (disch := omega) only [gi_si, if_neg, if_pos, and_self, if_true]
  · rw [gi_si, if_pos ⟨rfl, rfl⟩, List.length_append]; rfl
end R61
