/-! a command is read (class) -/
def PC (N W a k : Nat) : Prop := P8 N a k ∨ (a = N + 11 ∧ k = 2) ∨ (a = N + 12 ∧ 4 * W ≤ k)
theorem PC.w {N W a k : Nat} (h : PC N W a k) : PC N 0 a k := by
  rcases h with h | h | h
  · exact Or.inl h
  · exact Or.inr (Or.inl h)
  · exact Or.inr (Or.inr ⟨h.1, by omega⟩)
def SC (m : am_M) (N o : Nat) (s : Nat → Int32) (q : Nat → Int64) (W : Nat) : Prop := gr_ m (N + 13) 2 = o + 1 ∧ OS m o ∧ OV m o s q ∧ N + 27 ≤ o ∧ gi_ m (N + 11) 2 = nI W
section I89
variable {sa sv d N o oo T n B W i : Nat} {b : Nat → Nat} {m m' : am_M} {s : Nat → Int32} {q : Nat → Int64} {P : Nat → Nat → Prop}
theorem SC.fr (h : SC m N o s q W) (hf : Fr P m m') (hp : ∀ a k, P a k → a < N + 27 ∧ ¬ a = N + 13) {W' : Nat} (hW : gi_ m' (N + 11) 2 = nI W') : SC m' N o s q W' := by
  obtain ⟨h1, h2, h3, h4, h5⟩ := h
  exact ⟨(hf.2.2.2.1 _ _ (fun z => (hp _ _ z).2 rfl)).trans h1, h2.fr' hf (fun a k z1 z2 z => by have := (hp a k z).1; omega), h3.fr hf (fun a k z1 z2 z => by have := (hp a k z).1; omega), h4, hW⟩
theorem SC.stp (h : SC m N o s q W) (j : Nat) : SC (stp m N j) N o s q W := h.fr (P := P5 N) ((Fr.refl _ _).si ⟨rfl, rfl⟩) (fun a k z => by have := z.1; omega) ((if_neg (by omega)).trans h.2.2.2.2)
theorem PC.c {a k : Nat} (h : PC N W a k) (h2 : ¬ a = N + 2) : XF N a k ∧ ¬ a = N + 2 ∧ ¬ a = N + 4 ∧ ¬ a = N + 5 ∧ ¬ a = N + 6 := by
  rcases h with h | h | h
  · exact absurd h.1 h2
  · exact ⟨XF.a21 (Or.inl h.1) (by omega), by omega, by omega, by omega, by omega⟩
  · exact ⟨XF.a12 h.1, by omega, by omega, by omega, by omega⟩
/-- a cell of the table of commands is written -/
theorem SC.put (h : SC m N o s q W) (hT : CT m N b n T i) (j : Nat) (v : Int32) {V : Nat} (hj : 4 * V ≤ j) : SC (si_ m (N + 12) j v) N o s q W ∧ CT (si_ m (N + 12) j v) N b n T i ∧ Fr (PC N V) m (si_ m (N + 12) j v) := by
  have hf : Fr (fun a k => a = N + 12 ∧ k = j) m (si_ m (N + 12) j v) := (Fr.refl _ _).si ⟨rfl, rfl⟩
  exact ⟨h.fr hf (fun a k z => by omega) ((if_neg (by omega)).trans h.2.2.2.2), hT.fr hf (fun a k z => ⟨XF.a12 z.1, by omega, by omega, by omega, by omega⟩), hf.mono fun a k z => Or.inr (Or.inr ⟨z.1, by omega⟩)⟩
theorem x128c (hX : XS m N) (p c : Nat) (hp : p < 30) (hc : c < 4) (v : Int32) : am_ca sa sv (d + 1) 128 [.ref (N + 11), .int (nI p), .int (nI c), .int v] m = some (.inl none, si_ m (N + 12) (p * 4 + c) v) := x128 (sa := sa) (sv := sv) (d := d) (xt11 hX) (by decide) p c v (by omega)
def m97 (m : am_M) (N W K : Nat) : am_M := si_ (si_ m (N + 12) (W * 4 + 0) (nI K)) (N + 11) 2 (nI (W + 1))
theorem m97_fr (m : am_M) (N W K : Nat) : Fr (PC N W) m (m97 m N W K) := ((Fr.refl _ _).si (Or.inr (Or.inr ⟨rfl, by omega⟩))).si (Or.inr (Or.inl ⟨rfl, rfl⟩))
theorem m97_t (h : CT m N b n T i) (hS : SC m N o s q W) (K : Nat) : CT (m97 m N W K) N b n T i ∧ SC (m97 m N W K) N o s q (W + 1) ∧ gi_ (m97 m N W K) (N + 12) (W * 4) = nI K := by
  have hf : Fr (fun a k => a = N + 12 ∨ (a = N + 11 ∧ k = 2)) m (m97 m N W K) := ((Fr.refl _ _).si (Or.inl rfl)).si (Or.inr ⟨rfl, rfl⟩)
  refine ⟨h.fr hf (fun a k z => ?_), hS.fr hf (fun a k z => by omega) (if_pos ⟨rfl, rfl⟩), ?_⟩
  · rcases z with z | z
    · exact ⟨XF.a12 z, by omega, by omega, by omega, by omega⟩
    · exact ⟨XF.a21 (Or.inl z.1) (by omega), by omega, by omega, by omega, by omega⟩
  · unfold m97
    rw [gi_si, if_neg (by omega), gi_si, if_pos ⟨rfl, by omega⟩]
theorem x97 (hX : XS m N) (hW : gi_ m (N + 11) 2 = nI W) (h30 : W < 30) (K : Nat) : am_ca sa sv (d + 2) 97 [.ref (N + 10), .int (nI K)] m = some (.inl (some (.int (nI W))), m97 m N W K) := by
  have e1 : gi_ (si_ m (N + 12) (W * 4 + 0) (nI K)) (N + 11) 2 = nI W := (if_neg (by omega)).trans hW
  have e2 : gi_ (si_ (si_ m (N + 12) (W * 4 + 0) (nI K)) (N + 11) 2 (nI (W + 1))) (N + 11) 2 = nI (W + 1) := if_pos ⟨rfl, rfl⟩
  have q := x128c (sa := sa) (sv := sv) (d := d) hX W 0 h30 (by omega) (nI K)
  rw [c97, b97_0]
  simp (disch := omega) only [gq_true, gb_true, gb_false, true_and, and_true, eq_self, not_false_eq_true, not_true_eq_false, true_or, or_true, false_or, or_false, false_and, and_false, c0_v, ci_v, cl_v, cf_v, pk_mul, nI_add, nI_clamp, nI_lt0, nI_0le, nI_eq0, nI_lt0r, nI_ltE, nI_leE, nI_eqE, nI_m1, in_t, ba0, ba1, Nat.one_ne_zero, Nat.reduceEqDiff, Nat.reduceLeDiff, Nat.add_eq_zero_iff, xk10 hX, xr10_0 hX, xk11 hX, eq_false (show ¬ N + 11 = 0 by omega), hW, q, gk_siF, gr_si, e1, e2, nI_p1]
  rfl
theorem sWrk_0 : sWrk s q b n 0 i = eb (sName b n i) fun x => if wnm_ s q x.2 < cN s 1 then .inr (x.1 + 1, wnm_ s q x.2) else rr_ b n 3 x.1 := by
  unfold sWrk sName
  by_cases e : Kd b n i = 2
  · rw [if_pos e, if_pos e]
    show _ = if wnm_ s q (Vl b n i) < cN s 1 then _ else _
    by_cases e2 : wnm_ s q (Vl b n i) < cN s 1
    · rw [if_pos e2, if_pos e2, if_neg (by unfold rm_; omega)]
    · rw [if_neg e2, if_neg e2]
  · rw [if_neg e, if_neg e]
    rfl
theorem sPay_0 : sPay s q b n i = eb (sName b n i) fun x => if pnm_ s q x.2 < cN s 0 then .inr (x.1 + 1, pnm_ s q x.2) else rr_ b n 3 x.1 := by
  unfold sPay sName
  by_cases e : Kd b n i = 2
  · rw [if_pos e, if_pos e]
    rfl
  · rw [if_neg e, if_neg e]
    rfl
theorem eb_eb {α β γ : Type} (z : Er ⊕ α) (f : α → Er ⊕ β) (g : β → Er ⊕ γ) : eb (eb z f) g = eb z fun x => eb (f x) g := by cases z <;> rfl
/-- a known name's number -/
theorem x106n (h : CT m N b n T i) (hi : i < T) (k : Nat) (hk : k < 100) : am_ca sa sv (d + 2) 106 [.ref (N + 13), .int (nI k)] m = some (.inl (some (.int (nI k))), stp m N (i + 1)) := by
  have hX := h.1
  have q := x143 (sa := sa) (sv := sv) (d := d) h hi
  rw [c106, b106_0]
  simp (disch := omega) only [gq_true, gb_true, gb_false, true_and, and_true, eq_self, not_false_eq_true, not_true_eq_false, true_or, or_true, false_or, or_false, false_and, and_false, c0_v, ci_v, cl_v, cf_v, pk_mul, nI_add, nI_clamp, nI_lt0, nI_0le, nI_eq0, nI_lt0r, nI_ltE, nI_leE, nI_eqE, nI_m1, in_t, ba0, ba1, Nat.one_ne_zero, Nat.reduceEqDiff, Nat.reduceLeDiff, Nat.add_eq_zero_iff, xk13 hX, xr13_0 hX, xk2 hX, eq_false (show ¬ N + 2 = 0 by omega), q]
  rfl
theorem x106f (h : CT m N b n T i) : am_ca sa sv (d + 2) 106 [.ref (N + 13), .int (-1)] m = some (.inr 1, th_ (fl2 m N 3 (St b n i))) := by
  have hX := h.1
  have q := x149 (sa := sa) (sv := sv) (d := d) h 3
  rw [c106, b106_0]
  simp (disch := omega) only [gq_true, gb_true, gb_false, true_and, and_true, eq_self, not_false_eq_true, not_true_eq_false, true_or, or_true, false_or, or_false, false_and, and_false, c0_v, ci_v, cl_v, cf_v, pk_mul, nI_add, nI_clamp, nI_lt0, nI_0le, nI_eq0, nI_lt0r, nI_ltE, nI_leE, nI_eqE, nI_m1, in_t, ba0, ba1, Nat.one_ne_zero, Nat.reduceEqDiff, Nat.reduceLeDiff, Nat.add_eq_zero_iff, xk13 hX, xr13_0 hX, xk2 hX, eq_false (show ¬ N + 2 = 0 by omega), q, c0_x, xg_v]
theorem CT.Tn (h : CT m N b n T i) : T ≤ 900 ∧ i ≤ T := ⟨h.2.2.1, h.2.2.2.2.2.1⟩
theorem CW.fail {α : Type} {g : α → Option Value} {Q : Nat → α → am_M → Prop} (h : CT m N b n T i) (c : Nat) : CW N m (PC N W) g Q (rr_ b n c i) (some (.inr 1, th_ (fl2 m N c (St b n i)))) := by
  obtain ⟨m', g1, g2, g3⟩ := CO.fail (g := g) h c
  exact ⟨m', g1, g2.mono (fun a k z => Or.inl z), g3⟩
end I89
