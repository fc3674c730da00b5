/-! what was is kept (class) -/
section I89
variable {sa sv d N n B w l1 u u' v' : Nat} {X : TX} {s s' : Nat → Int32} {q q' : Nat → Int64} {m m' : am_M} {f f' : Nat → Nat} {P : Nat → Nat → Prop}
theorem nI_p1 (n : Nat) : nI (n + 1) - nI 1 = nI n := nI_pred n
theorem XF.of {a k : Nat} (h : N + 27 ≤ a) (h2 : a < N + 243) : XF N a k := ⟨by omega, Or.inr (Or.inr (Or.inl ⟨by omega, by omega⟩))⟩
theorem XF.a26 {a k : Nat} (h : a = N + 24 ∨ a = N + 25 ∨ a = N + 26) : XF N a k := ⟨by omega, Or.inr (Or.inr (Or.inr (Or.inr (Or.inr (Or.inr (Or.inr (Or.inr (Or.inr (Or.inr (Or.inl (by omega)))))))))))⟩
/-- the history of a class -/
def HI (m : am_M) (N : Nat) (f : Nat → Nat) : Prop := ∀ i, i < 5 → gr_ m (N + 26) i = oa N (f i)
theorem oa_z (N j : Nat) : (oa N j = 0) = False := eq_false (by unfold oa; omega)
theorem x211_17 (hX : XS m N) (hO : ∀ j, j < 8 → OS m (oa N j)) (hf : SL f) (j : Nat) (hj : j < 4) (h : gr_ m (N + 26) (j + 1) = oa N (f (j + 1))) : r211 sa sv d 17 [some (.ref N), some (.ref l1), some (.int (nI (j + 1)))] [] m = r211 sa sv d 17 [some (.ref N), some (.ref l1), some (.int (nI (j + 2)))] [] (sr_ m (N + 26) j (oa N (f (j + 1)))) := by
  rw [b211_17]
  simp (disch := omega) only [gq_true, gb_true, gb_false, true_and, and_true, eq_self, not_false_eq_true, not_true_eq_false, true_or, or_true, false_or, or_false, false_and, and_false, c0_v, ci_v, cl_v, cf_v, pk_mul, nI_add, nI_clamp, nI_lt0, nI_0le, nI_eq0, nI_lt0r, nI_ltE, nI_leE, nI_eqE, nI_m1, in_t, ba0, ba1, Nat.one_ne_zero, Nat.reduceEqDiff, Nat.reduceLeDiff, Nat.add_eq_zero_iff, xk0 hX, xr0_8 hX, xk26 hX, h, ok0 (hO _ (hf.lt (i := j + 1) (by omega))), oa_z, am_el6, eq_false (show ¬ 5 ≤ j + 1 by omega), eq_false (show ¬ N + 26 = 0 by omega), nI_p1]
/-- the eldest of five gives its place to the next -/
def rotF (f : Nat → Nat) (i : Nat) : Nat := if i < 4 then f (i + 1) else if i = 4 then f 0 else f i
theorem SL.rotS (h : SL f) : SL (rotF f) := by
  obtain ⟨h1, h2, h3⟩ := h
  refine ⟨fun i hi => ?_, fun i j hi hj e => ?_, ?_⟩
  · unfold rotF
    repeat' split
    all_goals exact h1 _ (by omega)
  · unfold rotF at e
    (repeat' split at e)
    all_goals have := h2 _ _ (by omega) (by omega) e
    all_goals omega
  · exact h3
def rotM (m : am_M) (N : Nat) (f : Nat → Nat) : am_M := sr_ (sr_ (sr_ (sr_ m (N + 26) 0 (oa N (f 1))) (N + 26) 1 (oa N (f 2))) (N + 26) 2 (oa N (f 3))) (N + 26) 3 (oa N (f 4))
def rotN (m : am_M) (N : Nat) (f : Nat → Nat) : am_M := si_ (sr_ (rotM m N f) (N + 26) 4 (oa N (f 0))) N 9 (nI 4)
theorem x211_r (hX : XS m N) (hO : ∀ j, j < 8 → OS m (oa N j)) (hf : SL f) (h : HI m N f) : r211 sa sv d 17 [some (.ref N), some (.ref l1), some (.int (nI 1))] [] m = r211 sa sv d 17 [some (.ref N), some (.ref l1), some (.int (nI 5))] [] (rotM m N f) := by
  have s1 := x211_17 (sa := sa) (sv := sv) (d := d) (l1 := l1) hX hO hf 0 (by omega) (h 1 (by omega))
  have s2 := x211_17 (sa := sa) (sv := sv) (d := d) (l1 := l1) (m := sr_ m (N + 26) 0 (oa N (f 1))) (hX.frg ((Fr.refl (fun a _ => a = N + 26) _).sr rfl) (fun a k z => XF.a26 (by omega))) (fun j hj => (hO j hj).fr' ((Fr.refl (fun a _ => a = N + 26) _).sr rfl) (fun a k z1 z2 z => by have := oa_lo N j; omega)) hf 1 (by omega) (by rw [gr_sr, if_neg (by omega)]; exact h 2 (by omega))
  have s3 := x211_17 (sa := sa) (sv := sv) (d := d) (l1 := l1) (m := sr_ (sr_ m (N + 26) 0 (oa N (f 1))) (N + 26) 1 (oa N (f 2))) (hX.frg (((Fr.refl (fun a _ => a = N + 26) _).sr rfl).sr rfl) (fun a k z => XF.a26 (by omega))) (fun j hj => (hO j hj).fr' (((Fr.refl (fun a _ => a = N + 26) _).sr rfl).sr rfl) (fun a k z1 z2 z => by have := oa_lo N j; omega)) hf 2 (by omega) (by rw [gr_sr, if_neg (by omega), gr_sr, if_neg (by omega)]; exact h 3 (by omega))
  have s4 := x211_17 (sa := sa) (sv := sv) (d := d) (l1 := l1) (m := sr_ (sr_ (sr_ m (N + 26) 0 (oa N (f 1))) (N + 26) 1 (oa N (f 2))) (N + 26) 2 (oa N (f 3))) (hX.frg ((((Fr.refl (fun a _ => a = N + 26) _).sr rfl).sr rfl).sr rfl) (fun a k z => XF.a26 (by omega))) (fun j hj => (hO j hj).fr' ((((Fr.refl (fun a _ => a = N + 26) _).sr rfl).sr rfl).sr rfl) (fun a k z1 z2 z => by have := oa_lo N j; omega)) hf 3 (by omega) (by rw [gr_sr, if_neg (by omega), gr_sr, if_neg (by omega), gr_sr, if_neg (by omega)]; exact h 4 (by omega))
  exact s1.trans (s2.trans (s3.trans s4))
theorem x211_0 (hX : XS m N) (hO : ∀ j, j < 8 → OS m (oa N j)) (hf : SL f) (h : HI m N f) (hu : gi_ m N 9 = nI 5) : r211 sa sv d 0 [some (.ref N), none, none] [] m = r211 sa sv d 54 [some (.ref N), some (.ref (oa N (f 0))), some (.int (nI 5))] [] (rotN m N f) := by
  have fM : Fr (fun a _ => a = N + 26) m (rotM m N f) := by
    unfold rotM
    refine Fr.sr (Fr.sr (Fr.sr (Fr.sr (Fr.refl _ _) ?_) ?_) ?_) ?_ <;> exact rfl
  have hXM : XS (rotM m N f) N := hX.frg fM (fun a k z => XF.a26 (by omega))
  have oM : OS (rotM m N f) (oa N (f 0)) := (hO _ (hf.lt (by omega))).fr' fM (fun a k z1 z2 z => by have := oa_lo N (f 0); omega)
  rw [b211_0]
  simp (disch := omega) only [gq_true, gb_true, gb_false, true_and, and_true, eq_self, not_false_eq_true, not_true_eq_false, true_or, or_true, false_or, or_false, false_and, and_false, c0_v, ci_v, cl_v, cf_v, pk_mul, nI_add, nI_clamp, nI_lt0, nI_0le, nI_eq0, nI_lt0r, nI_ltE, nI_leE, nI_eqE, nI_m1, in_t, ba0, ba1, Nat.one_ne_zero, Nat.reduceEqDiff, Nat.reduceLeDiff, Nat.add_eq_zero_iff, Nat.lt_irrefl, xk0 hX, hu, xr0_8 hX, xk26 hX, h 0 (by omega), oa_z, am_el6, eq_false (show ¬ N + 26 = 0 by omega), x211_r hX hO hf h]
  rw [b211_17]
  simp (disch := omega) only [gq_true, gb_true, gb_false, true_and, and_true, eq_self, not_false_eq_true, not_true_eq_false, true_or, or_true, false_or, or_false, false_and, and_false, c0_v, ci_v, cl_v, cf_v, pk_mul, nI_add, nI_clamp, nI_lt0, nI_0le, nI_eq0, nI_lt0r, nI_ltE, nI_leE, nI_eqE, nI_m1, in_t, ba0, ba1, Nat.one_ne_zero, Nat.reduceEqDiff, Nat.reduceLeDiff, Nat.add_eq_zero_iff, xk0 hXM, xr0_8 hXM, xk26 hXM, ok0 oM, oa_z, am_el6, eq_false (show ¬ N + 26 = 0 by omega), Nat.le_refl]
  rfl
theorem x211_54 (hX : XS m N) (hO : ∀ j, j < 8 → OS m (oa N j)) (hf : SL f) (h : HI m N f) (h13 : gr_ m N 13 = oa N (f 7)) (hw : w < 5) (hu : gi_ m N 9 = nI w) (o1 o2 : Option Value) : ∃ m1, r211 sa sv (d + 3) 54 [some (.ref N), o1, o2] [] m = some (.inl none, si_ m1 N 9 (nI (w + 1))) ∧ PCo m (oa N (f w)) (fun j => gi_ m (oa N (f 7) + j)) (fun j => gl_ m (oa N (f 7) + j)) (fun i => i < 27) m1 := by
  obtain ⟨m1, g1, p1⟩ := x72 (sa := sa) (sv := sv) (d := d) (hO _ (hf.lt (i := w) (by omega))) (hO _ (hf.lt (i := 7) (by omega))) (by unfold oa; omega) (by unfold oa; omega) (oa_ne N (hf.ne (i := w) (j := 7) (by omega) (by omega) (by omega)))
  have k1 : gk_ m1 = gk_ m := p1.1.1.1
  have u1 : gi_ m1 N 9 = nI w := (p1.1.2.1 N 9 (by unfold OA; have := oa_lo N (f w); omega)).trans hu
  refine ⟨m1, ?_, p1⟩
  rw [b211_54]
  simp (disch := omega) only [gq_true, gb_true, gb_false, true_and, and_true, eq_self, not_false_eq_true, not_true_eq_false, true_or, or_true, false_or, or_false, false_and, and_false, c0_v, ci_v, cl_v, cf_v, pk_mul, nI_add, nI_clamp, nI_lt0, nI_0le, nI_eq0, nI_lt0r, nI_ltE, nI_leE, nI_eqE, nI_m1, in_t, ba0, ba1, Nat.one_ne_zero, Nat.reduceEqDiff, Nat.reduceLeDiff, Nat.add_eq_zero_iff, xk0 hX, hu, xr0_8 hX, xk26 hX, h w hw, h13, ok0 (hO _ (hf.lt (i := w) (by omega))), oa_z, am_el6, eq_false (show ¬ N + 26 = 0 by omega), g1, k1, u1]
/-- after a class's writes in offices and the fields of N -/
theorem TC.set (h : TC m N X) (hf : Fr P m m') (hp : ∀ a k, P a k → XF N a k ∧ ¬ a = N + 1 ∧ ¬ a = N + 3 ∧ ¬ (a = N ∧ (k = 1 ∨ k = 11)) ∧ ¬ (a = N + 2 ∧ 6 ≤ k ∧ k ≤ 8) ∧ ¬ a = N + 24 ∧ ¬ (a = N + 23 ∧ k = 2)) (hO : ∀ j, j < 8 → OS m' (oa N j)) {ps : Nat → Nat → Int32} {pq : Nat → Nat → Int64} (hu : gi_ m' N 9 = nI u') (hu5 : u' ≤ 5) (hF : ∃ f', TF m' N f' ((X.wS s q).wH u' ps pq)) : TC m' N ((X.wS s q).wH u' ps pq) := by
  have hi : ∀ a k, ¬ P a k → gi_ m' a k = gi_ m a k := fun a k z => hf.2.1 a k z
  exact ⟨h.x.frg hf (fun a k z => (hp a k z).1), h.q.fr hf (fun k z => (hp _ _ z).2.2.1 rfl), h.b.fr hf (fun k z => (hp _ _ z).2.1 rfl), (hi _ _ (fun z => (hp _ _ z).2.2.2.1 ⟨rfl, Or.inl rfl⟩)).trans h.n, hu, hu5, (hi _ _ (fun z => (hp _ _ z).2.2.2.1 ⟨rfl, Or.inr rfl⟩)).trans h.v, h.v1, (hi _ _ (fun z => (hp _ _ z).2.2.2.2.1 ⟨rfl, by omega, by omega⟩)).trans h.e1, (hi _ _ (fun z => (hp _ _ z).2.2.2.2.1 ⟨rfl, by omega, by omega⟩)).trans h.e2, (hi _ _ (fun z => (hp _ _ z).2.2.2.2.1 ⟨rfl, by omega, by omega⟩)).trans h.e3, (hi _ _ (fun z => (hp _ _ z).2.2.2.2.2.2 ⟨rfl, rfl⟩)).trans h.r, h.r3, fun k hk => (hi _ _ (fun z => (hp _ _ z).2.2.2.2.2.1 rfl)).trans (h.rb k hk), hO, hF⟩
end I89
