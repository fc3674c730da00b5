/-! what is read of a division -/
theorem dvd_64 {s : Nat → Int32} (hC : WC s) (hW : WW s) (day w a : Nat) (hw : w < cN s 1) : (dvd_ s day w a).2.length ≤ 64 := dv_64 hC hW day (w + 1) _ hw
section R65
variable {sa sv d N o : Nat} {m : am_M} {s : Nat → Int32} {q : Nat → Int64}
theorem x41 (hX : XS m N) (u : Nat) (hu : u < 12) : am_ca sa sv (d + 2) 41 [.ref (N + 14), .int (nI u)] m = some (.inl (some (.int (gi_ m (N + 18) u))), m) := by
  rw [c41, b41_0]
  simp (disch := omega) only [gq_true, gb_true, gb_false, true_and, and_true, eq_self, not_false_eq_true, not_true_eq_false, true_or, or_true, false_or, or_false, false_and, and_false, c0_v, ci_v, cl_v, cf_v, pk_mul, nI_add, nI_clamp, nI_lt0, nI_0le, nI_eq0, nI_lt0r, nI_ltE, nI_leE, nI_eqE, nI_m1, in_t, ba0, ba1, Nat.one_ne_zero, Nat.reduceEqDiff, Nat.reduceLeDiff, Nat.add_eq_zero_iff, xk14 hX, xr14_3 hX, x33 (N + 18) 12 u (xk18 hX) (by omega) hu]
theorem x42 (hX : XS m N) (u : Nat) (hu : u < 12) : am_ca sa sv (d + 2) 42 [.ref (N + 14), .int (nI u)] m = some (.inl (some (.int (gi_ m (N + 19) u))), m) := by
  rw [c42, b42_0]
  simp (disch := omega) only [gq_true, gb_true, gb_false, true_and, and_true, eq_self, not_false_eq_true, not_true_eq_false, true_or, or_true, false_or, or_false, false_and, and_false, c0_v, ci_v, cl_v, cf_v, pk_mul, nI_add, nI_clamp, nI_lt0, nI_0le, nI_eq0, nI_lt0r, nI_ltE, nI_leE, nI_eqE, nI_m1, in_t, ba0, ba1, Nat.one_ne_zero, Nat.reduceEqDiff, Nat.reduceLeDiff, Nat.add_eq_zero_iff, xk14 hX, xr14_4 hX, x33 (N + 19) 12 u (xk19 hX) (by omega) hu]
theorem x43 (hX : XS m N) (u : Nat) (hu : u < 10) : am_ca sa sv (d + 2) 43 [.ref (N + 14), .int (nI u)] m = some (.inl (some (.int (gi_ m (N + 20) u))), m) := by
  rw [c43, b43_0]
  simp (disch := omega) only [gq_true, gb_true, gb_false, true_and, and_true, eq_self, not_false_eq_true, not_true_eq_false, true_or, or_true, false_or, or_false, false_and, and_false, c0_v, ci_v, cl_v, cf_v, pk_mul, nI_add, nI_clamp, nI_lt0, nI_0le, nI_eq0, nI_lt0r, nI_ltE, nI_leE, nI_eqE, nI_m1, in_t, ba0, ba1, Nat.one_ne_zero, Nat.reduceEqDiff, Nat.reduceLeDiff, Nat.add_eq_zero_iff, xk14 hX, xr14_5 hX, x33 (N + 20) 10 u (xk20 hX) (by omega) hu]
theorem eg_s {l : List Ln} {i : Nat} {x : Ln} (hx : l[i]? = some x) (p : Nat) : eg_ l p (i + 1) = eg_ l p i + if p = x.2.1 then x.2.2.1 else 0 := by
  rw [eg_, hx]
theorem og_t {s : Nat → Int32} {l : List Ln} {i : Nat} {x : Ln} (hx : l[i]? = some x) (p : Nat) : og_ s l p (i + 1) = og_ s l p i + if p = x.2.1 then x.2.2.1 - wd_ s l i else 0 := by
  rw [og_, hx]
theorem wd_le {s : Nat → Int32} {l : List Ln} {i : Nat} {x : Ln} (hx : l[i]? = some x) : wd_ s l i ≤ x.2.2.1 := by
  rw [wd_i hx]; exact Nat.sub_le _ _
theorem x44 (hX : XS m N) {l : List Ln} {g : Nat → Nat} (hl : l.length ≤ 64) (hG : ∀ x ∈ l, x.2.1 < 2 ^ 31) (hL : LF m (N + 22) l g) (hr : gi_ m (N + 21) 2 = nI l.length) (p : Nat) (hp : p < 2 ^ 31) : am_ca sa sv (d + 2) 44 [.ref (N + 14), .int (nI p)] m = some (.inl (some (.int (nI (eg_ l p l.length)))), m) := by
  have step : ∀ j i, i + j = l.length → r44 sa sv (d + 1) 4 [some (.ref (N + 14)), some (.int (nI p)), some (.int (nI (eg_ l p i))), some (.int (nI i))] [] m = some (.inl (some (.int (nI (eg_ l p l.length)))), m) := by
    intro j
    induction j with
    | zero =>
      intro i hi
      obtain rfl : i = l.length := by omega
      rw [b44_4]
      simp (disch := omega) only [gq_true, gb_true, gb_false, true_and, and_true, eq_self, not_false_eq_true, not_true_eq_false, true_or, or_true, false_or, or_false, false_and, and_false, c0_v, ci_v, cl_v, cf_v, pk_mul, nI_add, nI_clamp, nI_lt0, nI_0le, nI_eq0, nI_lt0r, nI_ltE, nI_leE, nI_eqE, nI_m1, in_t, ba0, ba1, Nat.one_ne_zero, Nat.reduceEqDiff, Nat.reduceLeDiff, Nat.add_eq_zero_iff, xk14 hX, xr14_6 hX, xk21 hX, hr, Nat.le_refl]
    | succ j ih =>
      intro i hi
      have hx : l[i]? = some l[i] := List.getElem?_eq_getElem (by omega)
      generalize l[i] = x at hx
      obtain ⟨k0, k1, k2, k3⟩ := hL i x hx
      have hp1 := hG x (List.mem_of_getElem? hx)
      have h1 := ih (i + 1) (by omega)
      rw [eg_s hx] at h1
      rw [b44_4]
      simp (disch := omega) only [gq_true, gb_true, gb_false, true_and, and_true, eq_self, not_false_eq_true, not_true_eq_false, true_or, or_true, false_or, or_false, false_and, and_false, c0_v, ci_v, cl_v, cf_v, pk_mul, nI_add, nI_clamp, nI_lt0, nI_0le, nI_eq0, nI_lt0r, nI_ltE, nI_leE, nI_eqE, nI_m1, in_t, ba0, ba1, Nat.one_ne_zero, Nat.reduceEqDiff, Nat.reduceLeDiff, Nat.add_eq_zero_iff, xk14 hX, xr14_6 hX, xk21 hX, hr, eq_false (show ¬ l.length ≤ i by omega), xln hX i 1 (by omega) (by omega), k1]
      by_cases e : x.2.1 = p
      · rw [gb_pos e]
        rw [if_pos e.symm] at h1
        simp (disch := omega) only [gq_true, gb_true, gb_false, true_and, and_true, eq_self, not_false_eq_true, not_true_eq_false, true_or, or_true, false_or, or_false, false_and, and_false, c0_v, ci_v, cl_v, cf_v, pk_mul, nI_add, nI_clamp, nI_lt0, nI_0le, nI_eq0, nI_lt0r, nI_ltE, nI_leE, nI_eqE, nI_m1, in_t, ba0, ba1, Nat.one_ne_zero, Nat.reduceEqDiff, Nat.reduceLeDiff, Nat.add_eq_zero_iff, xk14 hX, xr14_6 hX, xk21 hX, xln hX i 2 (by omega) (by omega), k2]
        exact h1
      · rw [gb_neg e]
        rw [if_neg (fun z => e z.symm)] at h1
        exact h1
  rw [c44, b44_0]
  exact step l.length 0 (Nat.zero_add _)
theorem x45 (hX : XS m N) {l : List Ln} (rt : Nat) (hl : l.length ≤ 64) (hG : ∀ x ∈ l, x.2.1 < 2 ^ 31) (hL : LF m (N + 22) l (wd_ s l)) (hr : gi_ m (N + 21) 2 = nI l.length) (p : Nat) (hp : p < 10) (hrt : gi_ m (N + 20) p = nI rt) : am_ca sa sv (d + 3) 45 [.ref (N + 14), .int (nI p)] m = some (.inl (some (.int (nI (og_ s l p l.length + rt)))), m) := by
  have step : ∀ j i, i + j = l.length → r45 sa sv (d + 2) 8 [some (.ref (N + 14)), some (.int (nI p)), some (.int (nI (rt + og_ s l p i))), some (.int (nI i))] [] m = some (.inl (some (.int (nI (rt + og_ s l p l.length)))), m) := by
    intro j
    induction j with
    | zero =>
      intro i hi
      obtain rfl : i = l.length := by omega
      rw [b45_8]
      simp (disch := omega) only [gq_true, gb_true, gb_false, true_and, and_true, eq_self, not_false_eq_true, not_true_eq_false, true_or, or_true, false_or, or_false, false_and, and_false, c0_v, ci_v, cl_v, cf_v, pk_mul, nI_add, nI_clamp, nI_lt0, nI_0le, nI_eq0, nI_lt0r, nI_ltE, nI_leE, nI_eqE, nI_m1, in_t, ba0, ba1, Nat.one_ne_zero, Nat.reduceEqDiff, Nat.reduceLeDiff, Nat.add_eq_zero_iff, xk14 hX, xr14_6 hX, xk21 hX, hr, Nat.le_refl]
    | succ j ih =>
      intro i hi
      have hx : l[i]? = some l[i] := List.getElem?_eq_getElem (by omega)
      generalize l[i] = x at hx
      obtain ⟨k0, k1, k2, k3⟩ := hL i x hx
      have hp1 := hG x (List.mem_of_getElem? hx)
      have hwd := wd_le (s := s) hx
      have h1 := ih (i + 1) (by omega)
      rw [og_t hx] at h1
      rw [b45_8]
      simp (disch := omega) only [gq_true, gb_true, gb_false, true_and, and_true, eq_self, not_false_eq_true, not_true_eq_false, true_or, or_true, false_or, or_false, false_and, and_false, c0_v, ci_v, cl_v, cf_v, pk_mul, nI_add, nI_clamp, nI_lt0, nI_0le, nI_eq0, nI_lt0r, nI_ltE, nI_leE, nI_eqE, nI_m1, in_t, ba0, ba1, Nat.one_ne_zero, Nat.reduceEqDiff, Nat.reduceLeDiff, Nat.add_eq_zero_iff, xk14 hX, xr14_6 hX, xk21 hX, hr, eq_false (show ¬ l.length ≤ i by omega), xln hX i 1 (by omega) (by omega), k1]
      by_cases e : x.2.1 = p
      · rw [gb_pos e]
        rw [if_pos e.symm, ← Nat.add_assoc] at h1
        simp (disch := omega) only [gq_true, gb_true, gb_false, true_and, and_true, eq_self, not_false_eq_true, not_true_eq_false, true_or, or_true, false_or, or_false, false_and, and_false, c0_v, ci_v, cl_v, cf_v, pk_mul, nI_add, nI_clamp, nI_lt0, nI_0le, nI_eq0, nI_lt0r, nI_ltE, nI_leE, nI_eqE, nI_m1, in_t, ba0, ba1, Nat.one_ne_zero, Nat.reduceEqDiff, Nat.reduceLeDiff, Nat.add_eq_zero_iff, xk14 hX, xr14_6 hX, xk21 hX, xln hX i 2 (by omega) (by omega), xln hX i 3 (by omega) (by omega), k2, k3, pk_sub hwd]
        exact h1
      · rw [gb_neg e]
        rw [if_neg (fun z => e z.symm)] at h1
        exact h1
  rw [c45, b45_0]
  simp (disch := omega) only [gq_true, gb_true, gb_false, true_and, and_true, eq_self, not_false_eq_true, not_true_eq_false, true_or, or_true, false_or, or_false, false_and, and_false, c0_v, ci_v, cl_v, cf_v, pk_mul, nI_add, nI_clamp, nI_lt0, nI_0le, nI_eq0, nI_lt0r, nI_ltE, nI_leE, nI_eqE, nI_m1, in_t, ba0, ba1, Nat.one_ne_zero, Nat.reduceEqDiff, Nat.reduceLeDiff, Nat.add_eq_zero_iff, xk14 hX, x43 hX p hp, hrt]
  rw [Nat.add_comm (og_ s l p l.length) rt]
  exact step l.length 0 (Nat.zero_add _)
end R65
