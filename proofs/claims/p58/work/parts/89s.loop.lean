/-! the statements one by one: the class -/
noncomputable def sLp (b : Nat → Nat) (n : Nat) : Nat → Nat → Nat → (Nat → Int32) → (Nat → Int64) → Er ⊕ (Nat × (Nat × ((Nat → Int32) × (Nat → Int64))))
  | 0, c, i, s, q => .inr (i, c, s, q)
  | f + 1, c, i, s, q => if Kd b n i = 0 then .inr (i, c, s, q) else eb (sST s q b n i) fun x => sLp b n f (c + 1) x.1 x.2.1 x.2.2
section I89
variable {sa sv d N o T n B : Nat} {b : Nat → Nat}
theorem x109_15 : ∀ (f c i : Nat) (m : am_M) (s : Nat → Int32) (q : Nat → Int64), c + f = 900 → CT m N b n T i → SR m N o s q → WG B s q → CW N m (PU N o) (fun v => some (.int (nI v.1))) (fun j v m' => CT m' N b n T j ∧ SR m' N o v.2.1 v.2.2) (sLp b n f c i s q) (r109 sa sv (d + 6) 15 [some (.ref (N + 7)), some (.ref o), some (.int (nI c))] [] m) := by
  intro f
  induction f with
  | zero =>
    intro c i m s q hc h hS hG
    obtain rfl : c = 900 := by omega
    rw [b109_15]
    simp (disch := omega) only [gq_true, gb_true, gb_false, true_and, and_true, eq_self, not_false_eq_true, not_true_eq_false, true_or, or_true, false_or, or_false, false_and, and_false, c0_v, ci_v, cl_v, cf_v, pk_mul, nI_add, nI_clamp, nI_lt0, nI_0le, nI_eq0, nI_lt0r, nI_ltE, nI_leE, nI_eqE, nI_m1, in_t, ba0, ba1, Nat.one_ne_zero, Nat.reduceEqDiff, Nat.reduceLeDiff, Nat.add_eq_zero_iff, Nat.le_refl]
    exact ⟨m, rfl, Fr.refl _ _, h, hS⟩
  | succ f ih =>
    intro c i m s q hc h hS hG
    have hK := Kd_lt b n i
    rw [b109_15]
    simp (disch := omega) only [gq_true, gb_true, gb_false, true_and, and_true, eq_self, not_false_eq_true, not_true_eq_false, true_or, or_true, false_or, or_false, false_and, and_false, c0_v, ci_v, cl_v, cf_v, pk_mul, nI_add, nI_clamp, nI_lt0, nI_0le, nI_eq0, nI_lt0r, nI_ltE, nI_leE, nI_eqE, nI_m1, in_t, ba0, ba1, Nat.one_ne_zero, Nat.reduceEqDiff, Nat.reduceLeDiff, Nat.add_eq_zero_iff, eq_false (show ¬ 900 ≤ c by omega), xk7 h.1, xr7_0 h.1, xk2 h.1, x142 (sa := sa) (sv := sv) (d := d + 5) h]
    unfold sLp
    by_cases e : Kd b n i = 0
    · rw [if_pos e, gb_pos e]
      exact ⟨m, rfl, Fr.refl _ _, h, hS⟩
    · rw [if_neg e, gb_neg e]
      refine CW.c0 (x110 (sa := sa) (sv := sv) (d := d) h hS hG e) (fun _ => rfl) (fun x m1 e1 f1 ⟨h1, s1⟩ => ?_)
      exact ih (c + 1) x.1 m1 _ _ (by omega) h1 s1 (sST_WG hG e1)
end I89
