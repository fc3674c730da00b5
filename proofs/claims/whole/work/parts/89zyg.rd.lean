/-! a script is read (class): from the first token -/
def PCd (N a k : Nat) : Prop := PC N 0 a k ∨ (a = N + 13 ∧ k = 2)
theorem PCd.x {N a k : Nat} (h : PCd N a k) : XF N a k ∧ a < N + 27 ∧ ¬ a = N ∧ ¬ a = N + 1 ∧ ¬ a = N + 3 ∧ ¬ a = N + 23 ∧ ¬ a = N + 24 ∧ ¬ a = N + 26 := by
  rcases h with h | h
  · by_cases e : a = N + 2
    · rcases h with h | h | h
      · exact ⟨XF.a2 e (by have := h.2; omega), by omega, by omega, by omega, by omega, by omega, by omega, by omega⟩
      · omega
      · omega
    · refine ⟨(h.c e).1, ?_⟩
      rcases h with h | h | h
      · exact absurd h.1 e
      · omega
      · omega
  · exact ⟨XF.a13 h.1 (by omega), by omega, by omega, by omega, by omega, by omega, by omega, by omega⟩
section I89
variable {sa sv d N o T n B : Nat} {b : Nat → Nat} {m m' : am_M} {s : Nat → Int32} {q : Nat → Int64}
theorem x103 (h : CT m N b n T 0) (hO : OS m o) (hV : OV m o s q) (ho : N + 27 ≤ o) (hG : WG B s q) : match sFx s q b n 0 0 [] 0 with
    | .inl e => ∃ m', am_ca sa sv (d + 11) 103 [.ref (N + 13), .ref (o + 1)] m = some (.inr 1, th_ m') ∧ Fr (PCd N) m m' ∧ gi_ m' (N + 2) 6 = nI e.1 ∧ gi_ m' (N + 2) 7 = nI e.2.1 ∧ gi_ m' (N + 2) 8 = nI e.2.2
    | .inr C => ∃ m' j W l, am_ca sa sv (d + 11) 103 [.ref (N + 13), .ref (o + 1)] m = some (.inl none, m') ∧ Fr (PCd N) m m' ∧ CT m' N b n T j ∧ gi_ m' (N + 11) 2 = nI W ∧ W ≤ 30 ∧ RwL (RwI (gi_ m' (N + 12)) s 2) 0 W l ∧ C = flL 2 l := by
  have hX := h.1
  have z10 : (N + 10 = 0) = False := eq_false (by omega)
  have z11 : (N + 11 = 0) = False := eq_false (by omega)
  have zo : (o + 1 = 0) = False := eq_false (by omega)
  have hf : Fr (fun a k => (a = N + 13 ∧ k = 2) ∨ (a = N + 11 ∧ k = 2)) m (si_ (sr_ m (N + 13) 2 (o + 1)) (N + 11) 2 (nI 0)) := ((Fr.refl _ _).sr (Or.inl ⟨rfl, rfl⟩)).si (Or.inr ⟨rfl, rfl⟩)
  have no : ∀ a k, o ≤ a → a < o + 27 → ¬ ((a = N + 13 ∧ k = 2) ∨ (a = N + 11 ∧ k = 2)) := fun a k z1 z2 z => by omega
  have t1 : CT (si_ (sr_ m (N + 13) 2 (o + 1)) (N + 11) 2 (nI 0)) N b n T 0 := h.fr hf (fun a k z => by
    rcases z with z | z
    · exact ⟨XF.a13 z.1 (by omega), by omega, by omega, by omega, by omega⟩
    · exact ⟨XF.a21 (Or.inl z.1) (by omega), by omega, by omega, by omega, by omega⟩)
  have S1 : SC (si_ (sr_ m (N + 13) 2 (o + 1)) (N + 11) 2 (nI 0)) N o s q 0 := ⟨(gr_sr _ _ _ _ _ _).trans (if_pos ⟨rfl, rfl⟩), hO.fr' hf no, hV.fr hf no, ho, if_pos ⟨rfl, rfl⟩⟩
  have c := x104 (sa := sa) (sv := sv) (d := d) hG 2 (Nat.le_refl _) _ 0 0 t1 S1 (by omega)
  have e1 : gr_ (sr_ m (N + 13) 2 (o + 1)) (N + 13) 1 = N + 10 := by rw [gr_sr, if_neg (by omega)]; exact xr13_1 hX
  have e2 : gr_ (sr_ m (N + 13) 2 (o + 1)) (N + 10) 0 = N + 11 := by rw [gr_sr, if_neg (by omega)]; exact xr10_0 hX
  have run : ∀ r, am_c0 (am_ca sa sv (d + 10) 104 [.ref (N + 13), .int (nI 0)] (si_ (sr_ m (N + 13) 2 (o + 1)) (N + 11) 2 (nI 0))) (fun m1 => some (.inl none, m1)) am_xg = r → am_ca sa sv (d + 11) 103 [.ref (N + 13), .ref (o + 1)] m = r := fun r hr => by
    rw [c103, b103_0]
    simp (disch := omega) only [gq_true, gb_true, gb_false, true_and, and_true, eq_self, not_false_eq_true, not_true_eq_false, true_or, or_true, false_or, or_false, false_and, and_false, c0_v, ci_v, cl_v, cf_v, pk_mul, nI_add, nI_clamp, nI_lt0, nI_0le, nI_eq0, nI_lt0r, nI_ltE, nI_leE, nI_eqE, nI_m1, in_t, ba0, ba1, Nat.one_ne_zero, Nat.reduceEqDiff, Nat.reduceLeDiff, Nat.add_eq_zero_iff, xk13 hX, zo, e1, e2, xk10 hX, z10, z11, xk11 hX]
    exact hr
  have hfD : Fr (PCd N) m (si_ (sr_ m (N + 13) 2 (o + 1)) (N + 11) 2 (nI 0)) := hf.mono fun a k z => by
    rcases z with z | z
    · exact Or.inr z
    · exact Or.inl (Or.inr (Or.inl z))
  rcases c with ⟨er, m', c1, c2, c3, c4, c5, c6⟩ | ⟨m', j, W, l, c1, c2, c3, c4, c5, c6, c7, c8, c9, c10, c11⟩
  · have e := c6 []
    have e' : sFx s q b n 0 0 [] 0 = .inl er := e
    rw [e']
    exact ⟨m', run _ (by rw [show (d + 10) = d + 3 * 2 + 4 from rfl, show nI 0 = nI (2 - 2) from rfl, c1, c0_x, xg_v]), hfD.trans (c2.mono fun a k z => Or.inl z), c3, c4, c5⟩
  · have e := c10 []
    have e0 : sFx s q b n (2 - 2) W ([] ++ flL 2 l) j = .inr ([] ++ flL 2 l) := by
      have k0 : Kd b n j = 0 := c8
      rw [sFx_u (by have := c3.Tn; omega), if_neg (fun z => absurd z.1 (Nat.lt_irrefl 0)), if_pos k0, if_neg (Nat.lt_irrefl 0)]
    have e' : sFx s q b n 0 0 [] 0 = .inr ([] ++ flL 2 l) := e.trans e0
    rw [e']
    exact ⟨m', j, W, l, run _ (by rw [show (d + 10) = d + 3 * 2 + 4 from rfl, show nI 0 = nI (2 - 2) from rfl, c1, c0_v]), hfD.trans (c2.mono fun a k z => Or.inl z), c3, c4.2.2.2.2, c7, c9, List.nil_append _⟩
end I89
