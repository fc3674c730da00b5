/-! sums: what the class has told adds up -/
def s64 (f : Nat → Int64) : Nat → Int64
  | 0 => 0
  | n + 1 => s64 f n + f n
/-- what always adds up -/
def PI (s : Nat → Int32) (q : Nat → Int64) : Prop :=
  (∀ p, p < cN s 0 → s64 (fun w => q (80 + 12 * p + w)) (cN s 1) = q (10 + 4 * p + 0)) ∧
  (s64 (fun p => q (10 + 4 * p + 1)) (cN s 0) = s64 (fun p => q (10 + 4 * p + 2)) (cN s 0)) ∧
  (s64 (fun p => q (10 + 4 * p + 1)) (cN s 0) = s64 (fun a => (s (690 + 6 * a + 2) - s (690 + 6 * a + 5)).toInt64) (cN s 3)) ∧
  (s64 (fun p => q (10 + 4 * p + 0)) (cN s 0) = s64 (fun p => q (10 + 4 * p + 3)) (cN s 0) + s64 q (cN s 0))
theorem PI.ef {s : Nat → Int32} {q : Nat → Int64} (h : PI s q) : ∀ p, p < cN s 0 → s64 (fun w => q (80 + 12 * p + w)) (cN s 1) = q (10 + 4 * p + 0) := h.1
theorem PI.wr {s : Nat → Int32} {q : Nat → Int64} (h : PI s q) : s64 (fun p => q (10 + 4 * p + 1)) (cN s 0) = s64 (fun p => q (10 + 4 * p + 2)) (cN s 0) := h.2.1
theorem PI.rc {s : Nat → Int32} {q : Nat → Int64} (h : PI s q) : s64 (fun p => q (10 + 4 * p + 1)) (cN s 0) = s64 (fun a => (s (690 + 6 * a + 2) - s (690 + 6 * a + 5)).toInt64) (cN s 3) := h.2.2.1
theorem PI.bl {s : Nat → Int32} {q : Nat → Int64} (h : PI s q) : s64 (fun p => q (10 + 4 * p + 0)) (cN s 0) = s64 (fun p => q (10 + 4 * p + 3)) (cN s 0) + s64 q (cN s 0) := h.2.2.2
section J8
variable {sa sv d N x B : Nat} {m : am_M} {ow : Nat → Nat} {X : TX}
theorem lgc_nn {v : Int64} (h : 0 ≤ v.toInt) : 0 ≤ lg_cmp v 0 := Int32.not_lt.mp fun z => by
  rw [lgc_lt] at z
  have := Int64.lt_iff_toInt_lt.mp z
  have e : (0 : Int64).toInt = 0 := rfl
  omega
theorem x298_92 (h : JT sa m sv N x ow B X X.s X.q) (hP : PI X.s X.q) {p : Nat} (hp : p < cN X.s 0) (l2 l4 l6 l8 l10 l12 : Int64) : r298 sa sv (d + 3) 92 [some (.ref N), some (.ref x), some (.long l2), none, some (.long l4), none, some (.long l6), none, some (.long l8), none, some (.long l10), none, some (.long l12), none, some (.int (nI p)), some (.long 0), none, some (.int (nI 0))] [] m = r298 sa sv (d + 3) 20 [some (.ref N), some (.ref x), some (.long l2), none, some (.long l4), none, some (.long l6), none, some (.long l8), none, some (.long l10), none, some (.long l12), none, some (.int (nI (p + 1))), some (.long (X.q (10 + 4 * p + 0))), none, some (.int (nI (cN X.s 1)))] [] m := by
  have b1 := isN_lt (wc_nw h.wc) (by decide)
  have b0 := isN_lt (wc_np h.wc) (by decide)
  obtain ⟨L, ⟨⟨c, hc⟩, a1, a0⟩, a2, a3⟩ := h.ws.wk
  have ez := x233 (sa := sa) (sv := sv) (d := d + 2) hc
  have key := lp_up (fun i => r298 sa sv (d + 3) 92 [some (.ref N), some (.ref x), some (.long l2), none, some (.long l4), none, some (.long l6), none, some (.long l8), none, some (.long l10), none, some (.long l12), none, some (.int (nI p)), some (.long (s64 (fun w => X.q (80 + 12 * p + w)) i)), none, some (.int (nI i))] [] m) (cN X.s 1) (fun i hi => by
    have e1 := h.efr (sa := sa) (d := d) hp hi
    rw [b298_92, gq_pos ⟨h.ws.k, a1.2.2⟩, gq_pos hc.1, ez, ci_v, gb_neg (by rw [nI_leE (by omega) (by omega)]; omega), gq_pos h.k0, e1, cl_v, nI_add]
    rfl)
  have e1 := h.tot (sa := sa) (d := d) hp (show 0 < 4 by decide)
  have e2 := h.bal (sa := sa) (d := d) hp
  refine key.trans ?_
  rw [b298_92, gq_pos ⟨h.ws.k, a1.2.2⟩, gq_pos hc.1, ez, ci_v, gb_pos (by rw [a2]; exact Int32.le_refl _), gq_pos h.k0, e1, cl_v, hP.ef p hp, gb_pos ((lgc_eq _ _).mpr rfl), gq_pos h.k0, e2, cl_v, gb_pos (lgc_nn (h.xg.1.2 p (by omega)).1), nI_add]
theorem x298_20 (h : JT sa m sv N x ow B X X.s X.q) (hP : PI X.s X.q) (l12 : Int64) : ∀ (k i : Nat) (o15 o16 o17 : Option Value), i + k = cN X.s 0 → ∃ o15' o16' o17', r298 sa sv (d + 3) 20 [some (.ref N), some (.ref x), some (.long (s64 (fun p => X.q (10 + 4 * p + 0)) i)), none, some (.long (s64 (fun p => X.q (10 + 4 * p + 1)) i)), none, some (.long (s64 (fun p => X.q (10 + 4 * p + 2)) i)), none, some (.long (s64 (fun p => X.q (10 + 4 * p + 3)) i)), none, some (.long (s64 X.q i)), none, some (.long l12), none, some (.int (nI i)), o15, o16, o17] [] m = r298 sa sv (d + 3) 160 [some (.ref N), some (.ref x), some (.long (s64 (fun p => X.q (10 + 4 * p + 0)) (cN X.s 0))), none, some (.long (s64 (fun p => X.q (10 + 4 * p + 1)) (cN X.s 0))), none, some (.long (s64 (fun p => X.q (10 + 4 * p + 2)) (cN X.s 0))), none, some (.long (s64 (fun p => X.q (10 + 4 * p + 3)) (cN X.s 0))), none, some (.long (s64 X.q (cN X.s 0))), none, some (.long l12), none, some (.int (nI 0)), o15', o16', o17'] [] m := by
  obtain ⟨e0, b0⟩ := (wc_np h.wc).c (by decide)
  have hnp : gi_ m x 0 = nI (cN X.s 0) := h.ws.np.trans e0
  intro k
  induction k with
  | zero =>
    intro i o15 o16 o17 hi
    have hi' : i = cN X.s 0 := by omega
    subst hi'
    refine ⟨o15, o16, o17, ?_⟩
    rw [b298_20, gq_pos h.ws.k, hnp, gb_pos (Int32.le_refl _)]
  | succ k ih =>
    intro i o15 o16 o17 hi
    have hp : i < cN X.s 0 := by omega
    obtain ⟨a, b, c, e⟩ := ih (i + 1) (some (.long (X.q (10 + 4 * i + 0)))) none (some (.int (nI (cN X.s 1)))) (by omega)
    refine ⟨a, b, c, ?_⟩
    rw [← e, b298_20, gq_pos h.ws.k, hnp, gb_neg (by rw [nI_leE (by omega) (by omega)]; omega), gq_pos h.k0, h.tot (d := d) hp (show 0 < 4 by decide), cl_v, gq_pos h.k0, h.tot (d := d) hp (show 1 < 4 by decide), cl_v, gq_pos h.k0, h.tot (d := d) hp (show 2 < 4 by decide), cl_v, gq_pos h.k0, h.tot (d := d) hp (show 3 < 4 by decide), cl_v, gq_pos h.k0, h.bal (d := d) hp, cl_v]
    exact x298_92 h hP hp _ _ _ _ _ _
theorem x298_160 (h : JT sa m sv N x ow B X X.s X.q) (hP : PI X.s X.q) (o15 o16 o17 : Option Value) : r298 sa sv (d + 3) 160 [some (.ref N), some (.ref x), some (.long (s64 (fun p => X.q (10 + 4 * p + 0)) (cN X.s 0))), none, some (.long (s64 (fun p => X.q (10 + 4 * p + 1)) (cN X.s 0))), none, some (.long (s64 (fun p => X.q (10 + 4 * p + 2)) (cN X.s 0))), none, some (.long (s64 (fun p => X.q (10 + 4 * p + 3)) (cN X.s 0))), none, some (.long (s64 X.q (cN X.s 0))), none, some (.long 0), none, some (.int (nI 0)), o15, o16, o17] [] m = some (.inl (some (.int (nI 1))), m) := by
  obtain ⟨e0, b0⟩ := (h.wc.2.2.2.1).c (by decide)
  obtain ⟨L, ⟨⟨c, hc⟩, a1, a0⟩, a2, a3⟩ := h.ws.ad
  have ez := x233 (sa := sa) (sv := sv) (d := d + 2) hc
  have key := lp_up (fun i => r298 sa sv (d + 3) 160 [some (.ref N), some (.ref x), some (.long (s64 (fun p => X.q (10 + 4 * p + 0)) (cN X.s 0))), none, some (.long (s64 (fun p => X.q (10 + 4 * p + 1)) (cN X.s 0))), none, some (.long (s64 (fun p => X.q (10 + 4 * p + 2)) (cN X.s 0))), none, some (.long (s64 (fun p => X.q (10 + 4 * p + 3)) (cN X.s 0))), none, some (.long (s64 X.q (cN X.s 0))), none, some (.long (s64 (fun a => (X.s (690 + 6 * a + 2) - X.s (690 + 6 * a + 5)).toInt64) i)), none, some (.int (nI i)), o15, o16, o17] [] m) (cN X.s 3) (fun i hi => by
    rw [b298_160, gq_pos ⟨h.ws.k, a1.2.2⟩, gq_pos hc.1, ez, ci_v, gb_neg (by rw [nI_leE (by omega) (by omega)]; omega), gq_pos h.k0, h.adv (d := d + 1) hi (show 2 < 6 by decide), ci_v, gq_pos h.k0, h.adv (d := d + 1) hi (show 5 < 6 by decide), ci_v, nI_add]
    rfl)
  refine key.trans ?_
  rw [b298_160, gq_pos ⟨h.ws.k, a1.2.2⟩, gq_pos hc.1, ez, ci_v, gb_pos (by rw [a2]; exact Int32.le_refl _), gb_pos ((lgc_eq _ _).mpr hP.wr), gb_pos ((lgc_eq _ _).mpr hP.rc), gb_pos ((lgc_eq _ _).mpr hP.bl), gq_pos (by decide)]
theorem x298 (h : JT sa m sv N x ow B X X.s X.q) (hP : PI X.s X.q) : am_ca sa sv (d + 4) 298 [.ref N, .ref x] m = some (.inl (some (.int (nI 1))), m) := by
  obtain ⟨a, b, c, e⟩ := x298_20 (sa := sa) (d := d) h hP 0 (cN X.s 0) 0 none none none (by omega)
  rw [c298, b298_0]
  exact e.trans (x298_160 h hP _ _ _)
end J8
