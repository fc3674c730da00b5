/-! a report is written: the class's calls -/
theorem l_nat {x : Int64} (h : 0 ≤ x.toInt) : x = Int64.ofNat x.toNatClampNeg ∧ x.toNatClampNeg < 2 ^ 63 := by
  have lt : x.toInt < 2 ^ 63 := Int64.toInt_lt x
  have e : x.toNatClampNeg = x.toInt.toNat := rfl
  have b : x.toNatClampNeg < 2 ^ 63 := by omega
  refine ⟨?_, b⟩
  apply Int64.toInt_inj.mp
  rw [lg_ofNat_toInt b]
  omega
theorem owed_n {s : Nat → Int32} (hD : WD s) (p : Int32) : ∀ n, n ≤ cN s 3 → ∃ k, k ≤ 1000000 * n ∧ owed_ s p n = nI k := by
  intro n
  induction n with
  | zero => intro _; exact ⟨0, by omega, rfl⟩
  | succ n ih =>
    intro hn
    obtain ⟨k, h1, h2⟩ := ih (by omega)
    have e : owed_ s p (n + 1) = if s (690 + 6 * n + 1) = p then owed_ s p n + s (690 + 6 * n + 5) else owed_ s p n := rfl
    rw [e, h2]
    split
    · obtain ⟨j, j1, j2⟩ := hD.2.2.2.2.2.1 n (by omega)
      exact ⟨k + j, by omega, by rw [j2, nI_add]⟩
    · exact ⟨k, by omega, rfl⟩
theorem owed_l {s : Nat → Int32} (hC : WC s) (hD : WD s) (p : Int32) : (owed_ s p (cN s 3)).toInt64 = Int64.ofNat (owed_ s p (cN s 3)).toNatClampNeg ∧ (owed_ s p (cN s 3)).toNatClampNeg < 2 ^ 31 := by
  have h12 := isN_lt (wc_nd hC) (by decide)
  obtain ⟨k, h1, h2⟩ := owed_n hD p (cN s 3) (Nat.le_refl _)
  rw [h2, nI_clamp (by omega)]
  exact ⟨nI_l (by omega), by omega⟩
theorem numL_len (n : Nat) : (numL n).length ≤ 19 := by
  unfold numL
  rw [emN_len]
  exact ndg_le n
theorem namL_len (x : Int64) : (namL x).length ≤ 8 := emL_len _ _
def rpR (s : Nat → Int32) (q : Nat → Int64) (p : Nat) : List Nat := namL (q (462 + p)) ++ ([58] ++ (numL (q p).toNatClampNeg ++ ([32] ++ (numL (owed_ s (nI p) (cN s 3)).toNatClampNeg ++ [10]))))
def rpB (s : Nat → Int32) (q : Nat → Int64) : Nat → List Nat
  | 0 => []
  | p + 1 => rpB s q p ++ rpR s q p
theorem rpB_len (s : Nat → Int32) (q : Nat → Int64) : ∀ p, (rpB s q p).length ≤ 49 * p
  | 0 => Nat.le_refl _
  | p + 1 => by
    have h1 := rpB_len s q p
    have h2 := namL_len (q (462 + p))
    have h3 := numL_len (q p).toNatClampNeg
    have h4 := numL_len (owed_ s (nI p) (cN s 3)).toNatClampNeg
    unfold rpB rpR
    simp only [List.length_append, List.length_singleton]
    omega
def rlR (s : Nat → Int32) (q : Nat → Int64) (i : Nat) : List Nat := namL (q (472 + cN s (767 + 4 * i + 0))) ++ ([32] ++ (namL (q (462 + cN s (767 + 4 * i + 1))) ++ ([32] ++ (numL (cN s (767 + 4 * i + 2)) ++ ((if cN s (767 + 4 * i + 3) = 0 then [] else [45] ++ numL (cN s (767 + 4 * i + 3))) ++ [10])))))
def rlB (s : Nat → Int32) (q : Nat → Int64) : Nat → List Nat
  | 0 => []
  | i + 1 => rlB s q i ++ rlR s q i
theorem rlB_len {s : Nat → Int32} (q : Nat → Int64) (hL : WL s) : ∀ i, i ≤ cN s 6 → (rlB s q i).length ≤ 36 * i
  | 0, _ => Nat.le_refl _
  | i + 1, hi => by
    have h1 := rlB_len q hL i (by omega)
    have h2 := namL_len (q (472 + cN s (767 + 4 * i + 0)))
    have h2' := namL_len (q (462 + cN s (767 + 4 * i + 1)))
    have l2 : cN s (767 + 4 * i + 2) < 10000000 := isN_lt (wl_a hL i (by omega)) (by decide)
    have l3 : cN s (767 + 4 * i + 3) < 10000000 := isN_lt (wl_h hL i (by omega)) (by decide)
    have h3 : (numL (cN s (767 + 4 * i + 2))).length ≤ 8 := by unfold numL; rw [emN_len]; exact ndg_7 (by omega)
    have h4 : (numL (cN s (767 + 4 * i + 3))).length ≤ 8 := by unfold numL; rw [emN_len]; exact ndg_7 (by omega)
    unfold rlB rlR
    split <;> simp only [List.length_append, List.length_singleton, List.length_nil] <;> omega
section I89
variable {sa sv d N n B o : Nat} {m m' m1 : am_M} {L : List Nat} {s : Nat → Int32} {q : Nat → Int64}
theorem x95 (h : RpC m N L) (n : Nat) (hn : n < 2 ^ 63) (hl : L.length + 19 ≤ 3840) : ∃ m', am_ca sa sv (d + 2) 95 [.ref (N + 23), .long (Int64.ofNat n)] m = some (.inl none, m') ∧ Fr (PRp N) m m' ∧ RpC m' N (L ++ numL n) := by
  have l19 := ndg_le n
  have l1 : 1 ≤ ndg n := by unfold ndg; omega
  obtain ⟨m1, l4, a1, a2, a3, a4⟩ := x95_5 (sa := sa) (sv := sv) (d := d + 1) n hn (ndg n - 1) 0 m none (by omega) h (fun i hi => absurd hi (Nat.not_lt_zero _))
  obtain ⟨m2, b1, b2, b3⟩ := x95_55 (sa := sa) (sv := sv) (d := d) n (nI (ndg n)) (Int64.ofNat n) l4 (ndg n) m1 L (by omega) a3 a4 (by omega)
  refine ⟨m2, ?_, a2.trans (b2.mono fun a k z => z.p), b3⟩
  rw [Nat.pow_zero, Nat.div_one] at a1
  rw [c95, b95_0, a1, b1]
theorem x91_7 (ho : N + 27 ≤ o) (hC : WC s) (hD : WD s) (hN : WN s q) (hb : WB B q) : ∀ (k p : Nat) (m : am_M), p + k = cN s 0 → RpC m N (rpB s q p) → OS m o → OV m o s q → ∃ m', r91 sa sv (d + 2) 7 [some (.ref (N + 23)), some (.ref o), some (.int (nI p))] [] m = some (.inl none, m') ∧ Fr (PRp N) m m' ∧ RpC m' N (rpB s q (cN s 0)) := by
  have n10 := isN_lt (wc_np hC) (by decide)
  obtain ⟨e0, b0⟩ := (wc_np hC).c (by decide)
  have no : ∀ {m m' : am_M}, Fr (PRp N) m m' → OS m o → OV m o s q → OS m' o ∧ OV m' o s q := fun {m m'} hf h1 h2 => ⟨h1.fr' hf (fun a k z1 z2 z => by unfold PRp at z; omega), h2.fr hf (fun a k z1 z2 z => by unfold PRp at z; omega)⟩
  intro k
  induction k with
  | zero =>
    intro p m hp h hO hV
    refine ⟨m, ?_, Fr.refl _ _, by rw [show cN s 0 = p by omega]; exact h⟩
    rw [b91_7]
    simp (disch := omega) only [gq_true, gb_true, gb_false, true_and, and_true, eq_self, not_false_eq_true, not_true_eq_false, true_or, or_true, false_or, or_false, false_and, and_false, c0_v, ci_v, cl_v, cf_v, pk_mul, nI_add, nI_clamp, nI_lt0, nI_0le, nI_eq0, nI_lt0r, nI_ltE, nI_leE, nI_eqE, nI_m1, in_t, ba0, ba1, Nat.one_ne_zero, Nat.reduceEqDiff, Nat.reduceLeDiff, Nat.add_eq_zero_iff, ok0 hO, or0_1 hO, ok1 hO, (ov_np hV).trans e0, eq_false (show ¬ o + 1 = 0 by omega), show cN s 0 ≤ p by omega]
  | succ k ih =>
    intro p m hp h hO hV
    have len := rpB_len s q p
    have nl := namL_len (q (462 + p))
    have n1 := numL_len (q p).toNatClampNeg
    have n2 := numL_len (owed_ s (nI p) (cN s 3)).toNatClampNeg
    obtain ⟨g1, g2⟩ := l_nat (x := q p) (hb p (by omega)).1
    obtain ⟨w1, w2⟩ := owed_l hC hD (nI p)
    have q12 := x12 (sa := sa) (sv := sv) (d := d) hO hV hC p (by omega)
    obtain ⟨m1, a1, a2, a3⟩ := x94 (sa := sa) (sv := sv) (d := d) h (hN.2.2.1 p (by omega)) (by omega)
    obtain ⟨O1, V1⟩ := no (a2.mono fun a k z => z.p) hO hV
    obtain ⟨m2, b1, b2, b3⟩ := x93 (sa := sa) (sv := sv) (d := d + 1) a3 58 (by omega) (by simp only [List.length_append]; omega)
    obtain ⟨O2, V2⟩ := no (b2.mono fun a k z => z.p) O1 V1
    have q63 := x63 (sa := sa) (sv := sv) (d := d) O2 V2 p (by omega)
    obtain ⟨m3, c1, c2, c3⟩ := x95 (sa := sa) (sv := sv) (d := d) b3 (q p).toNatClampNeg g2 (by simp only [List.length_append, List.length_singleton]; omega)
    rw [← g1] at c1
    obtain ⟨O3, V3⟩ := no c2 O2 V2
    obtain ⟨m4, d1, d2, d3⟩ := x93 (sa := sa) (sv := sv) (d := d + 1) c3 32 (by omega) (by simp only [List.length_append, List.length_singleton]; omega)
    obtain ⟨O4, V4⟩ := no (d2.mono fun a k z => z.p) O3 V3
    have q81 := x81 (sa := sa) (sv := sv) (d := d) O4 V4 hC (nI p)
    obtain ⟨m5, e1, e2, e3⟩ := x95 (sa := sa) (sv := sv) (d := d) d3 (owed_ s (nI p) (cN s 3)).toNatClampNeg (by omega) (by simp only [List.length_append, List.length_singleton]; omega)
    rw [← w1] at e1
    obtain ⟨O5, V5⟩ := no e2 O4 V4
    obtain ⟨m6, f1, f2, f3⟩ := x93 (sa := sa) (sv := sv) (d := d + 1) e3 10 (by omega) (by simp only [List.length_append, List.length_singleton]; omega)
    obtain ⟨O6, V6⟩ := no (f2.mono fun a k z => z.p) O5 V5
    have hL : RpC m6 N (rpB s q (p + 1)) := by
      unfold rpB rpR
      simpa only [List.append_assoc] using f3
    obtain ⟨m7, i1, i2, i3⟩ := ih (p + 1) m6 (by omega) hL O6 V6
    refine ⟨m7, ?_, ((((((a2.mono fun a k z => z.p).trans (b2.mono fun a k z => z.p)).trans c2).trans (d2.mono fun a k z => z.p)).trans e2).trans (f2.mono fun a k z => z.p)).trans i2, i3⟩
    rw [b91_7]
    simp (disch := omega) only [gq_true, gb_true, gb_false, true_and, and_true, eq_self, not_false_eq_true, not_true_eq_false, true_or, or_true, false_or, or_false, false_and, and_false, c0_v, ci_v, cl_v, cf_v, pk_mul, nI_add, nI_clamp, nI_lt0, nI_0le, nI_eq0, nI_lt0r, nI_ltE, nI_leE, nI_eqE, nI_m1, in_t, ba0, ba1, Nat.one_ne_zero, Nat.reduceEqDiff, Nat.reduceLeDiff, Nat.add_eq_zero_iff, ok0 hO, or0_1 hO, ok1 hO, (ov_np hV).trans e0, eq_false (show ¬ o + 1 = 0 by omega), eq_false (show ¬ cN s 0 ≤ p by omega), q12, xk23 h.1, a1, xk23 a3.1, b1, ok0 O2, or0_5 O2, ok19 O2, eq_false (show ¬ o + 19 = 0 by omega), q63, xk23 b3.1, c1, xk23 c3.1, d1, ok0 O4, q81, xk23 d3.1, e1, xk23 e3.1, f1]
    exact i1
end I89
