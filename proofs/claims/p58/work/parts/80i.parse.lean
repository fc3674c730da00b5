/-! the class's steps in a text -/
def stp (m : am_M) (N j : Nat) : am_M := si_ m (N + 2) 5 (nI j)
theorem stp_stp (m : am_M) (N j k : Nat) : stp (stp m N j) N k = stp m N k := by
  unfold stp si_
  have : up_ (up_ m.2.1 (N + 2) 5 (nI j)) (N + 2) 5 (nI k) = up_ m.2.1 (N + 2) 5 (nI k) := by
    funext a i
    unfold up_
    split <;> rfl
  show (m.1, up_ (up_ m.2.1 (N + 2) 5 (nI j)) (N + 2) 5 (nI k), m.2.2) = _
  rw [this]
/-- how a step of the class ends -/
def CO {α : Type} (N : Nat) (m : am_M) (g : α → Option Value) (s : Er ⊕ (Nat × α)) (r : Option am_R) : Prop := match s with
  | .inl e => ∃ m', r = some (.inr 1, th_ m') ∧ Fr (P8 N) m m' ∧ gi_ m' (N + 2) 6 = nI e.1 ∧ gi_ m' (N + 2) 7 = nI e.2.1 ∧ gi_ m' (N + 2) 8 = nI e.2.2
  | .inr x => r = some (.inl (g x.2), stp m N x.1)
def sName (b : Nat → Nat) (n i : Nat) : Er ⊕ (Nat × Int64) := if Kd b n i = 2 then .inr (i, Vl b n i) else err_ b n 1 i
def sSemi (b : Nat → Nat) (n why i : Nat) : Er ⊕ (Nat × Unit) := if Kd b n i = 4 then (if why = 0 then .inr (i + 1, ()) else .inl (5, St b n i, why)) else err_ b n 1 i
section I80
variable {sa sv d N : Nat} {m : am_M} {b : Nat → Nat} {n T i : Nat}
theorem stp_id (h : CT m N b n T i) : stp m N i = m := by
  have h7 := h.2.2.2.2.2.2.1
  have : up_ m.2.1 (N + 2) 5 (nI i) = m.2.1 := by
    funext a k
    unfold up_
    split
    · rename_i e
      rw [e.1, e.2]; exact h7.symm
    · rfl
  show (m.1, up_ m.2.1 (N + 2) 5 (nI i), m.2.2) = m
  rw [this]
theorem CT.set (h : CT m N b n T i) {j : Nat} (hj : j ≤ T) : CT (stp m N j) N b n T j := by
  obtain ⟨h1, ⟨h2, h2'⟩, h3, h4, h5, h6, h7, h8, h9⟩ := h
  unfold stp
  refine ⟨h1.frg (P := P5 N) ((Fr.refl _ _).si ⟨rfl, rfl⟩) (fun a k z => XF.a2 z.1 (by have := z.2; omega)), ⟨by rw [gi_si, if_neg (by omega)]; exact h2, fun j hj => ⟨?_, ?_, ?_⟩⟩, h3, h4, h5, hj, by rw [gi_si, if_pos ⟨rfl, rfl⟩], by rw [gi_si, if_neg (by omega)]; exact h8, h9.1, by rw [gi_si, if_neg (by omega)]; exact h9.2.1, by rw [gi_si, if_neg (by omega)]; exact h9.2.2⟩
  · rw [gi_si, if_neg (by omega)]; exact (h2' j hj).1
  · rw [gi_si, if_neg (by omega)]; exact (h2' j hj).2.1
  · exact (h2' j hj).2.2
theorem fl2_fr (m : am_M) (N c p : Nat) : Fr (P8 N) m (fl2 m N c p) := ((Fr.refl _ _).si ⟨rfl, by omega, by omega⟩).si ⟨rfl, by omega, by omega⟩
/-- a failure at token i -/
theorem CO.fail {α : Type} {g : α → Option Value} (h : CT m N b n T i) (c : Nat) : CO N m g (err_ b n c i) (some (.inr 1, th_ (fl2 m N c (St b n i)))) :=
  ⟨fl2 m N c (St b n i), rfl, fl2_fr _ _ _ _, by unfold fl2; rw [gi_si, if_neg (by omega), gi_si, if_pos ⟨rfl, rfl⟩], by unfold fl2; rw [gi_si, if_pos ⟨rfl, rfl⟩], by unfold fl2; rw [gi_si, if_neg (by omega), gi_si, if_neg (by omega)]; exact h.2.2.2.2.2.2.2.1⟩
theorem x144 (h : CT m N b n T i) (k : Nat) (hk : 0 < k) (hk2 : k < 28) : CO N m (fun _ => none) (sTake b n k i) (am_ca sa sv (d + 2) 144 [.ref (N + 2), .int (nI k)] m) := by
  have hK := Kd_lt b n i
  have e1 := x142 (sa := sa) (sv := sv) (d := d) h
  rw [c144, b144_0]
  simp (disch := omega) only [gq_true, gb_true, gb_false, true_and, and_true, eq_self, not_false_eq_true, not_true_eq_false, true_or, or_true, false_or, or_false, false_and, and_false, c0_v, ci_v, cl_v, cf_v, pk_mul, nI_add, nI_clamp, nI_lt0, nI_0le, nI_eq0, nI_lt0r, nI_ltE, nI_leE, nI_eqE, nI_m1, in_t, ba0, ba1, Nat.one_ne_zero, Nat.reduceEqDiff, Nat.reduceLeDiff, Nat.add_eq_zero_iff, xk2 h.1, e1]
  unfold sTake
  by_cases e : Kd b n i = k
  · rw [if_pos e, gb_pos e, x143 h (h.lt (by omega)), c0_v]
    rfl
  · rw [if_neg e, gb_neg e, x149 h 1, c0_x, xg_v]
    exact CO.fail h 1
theorem Vl_n (hk : Kd b n i = 3) : Vl b n i = Int64.ofNat (Nv b n i) := by
  unfold Kd at hk
  unfold Vl Nv
  split at hk
  · rename_i h1
    rw [if_pos h1]
    unfold tK at hk
    unfold tV
    split at hk
    · have := wki_2 (Int64.ofNat (wvn b (St b n i) (wnd b n (St b n i) - St b n i)))
      split at hk <;> omega
    · rename_i h2
      rw [if_neg h2]
      split at hk
      · rename_i h3
        rw [if_pos h3]
      · repeat' split at hk
        all_goals omega
  · omega
theorem x145 (h : CT m N b n T i) (lo hi : Nat) (hlo : lo < 2 ^ 30) (hhi : hi < 2 ^ 30) : CO N m (fun v => some (.int (nI v))) (sNum b n lo hi i) (am_ca sa sv (d + 2) 145 [.ref (N + 2), .int (nI lo), .int (nI hi)] m) := by
  have hK := Kd_lt b n i
  have e1 := x142 (sa := sa) (sv := sv) (d := d) h
  have e2 := x147 (sa := sa) (sv := sv) (d := d) h
  rw [c145, b145_0]
  simp (disch := omega) only [gq_true, gb_true, gb_false, true_and, and_true, eq_self, not_false_eq_true, not_true_eq_false, true_or, or_true, false_or, or_false, false_and, and_false, c0_v, ci_v, cl_v, cf_v, pk_mul, nI_add, nI_clamp, nI_lt0, nI_0le, nI_eq0, nI_lt0r, nI_ltE, nI_leE, nI_eqE, nI_m1, in_t, ba0, ba1, Nat.one_ne_zero, Nat.reduceEqDiff, Nat.reduceLeDiff, Nat.add_eq_zero_iff, xk2 h.1, e1]
  unfold sNum
  by_cases e : Kd b n i = 3
  · have hn := Nv_lt e
    rw [if_pos e, gb_pos e, b145_13]
    simp (disch := omega) only [gq_true, gb_true, gb_false, true_and, and_true, eq_self, not_false_eq_true, not_true_eq_false, true_or, or_true, false_or, or_false, false_and, and_false, c0_v, ci_v, cl_v, cf_v, pk_mul, nI_add, nI_clamp, nI_lt0, nI_0le, nI_eq0, nI_lt0r, nI_ltE, nI_leE, nI_eqE, nI_m1, in_t, ba0, ba1, Nat.one_ne_zero, Nat.reduceEqDiff, Nat.reduceLeDiff, Nat.add_eq_zero_iff, xk2 h.1, e2]
    rw [Vl_n e, show (Int64.ofNat (Nv b n i)).toInt32 = nI (Nv b n i) from Int64.toInt32_ofNat' , nI_ltE (by omega) (by omega), nI_leE (by omega) (by omega)]
    by_cases l1 : Nv b n i < lo
    · rw [gb_pos l1, if_neg (by omega), x149 h 2, c0_x, xg_v]
      exact CO.fail h 2
    · rw [gb_neg l1]
      by_cases l2 : Nv b n i ≤ hi
      · rw [gb_pos l2, if_pos (by omega), x143 h (h.lt (by omega)), c0_v]
        rfl
      · rw [gb_neg l2, if_neg (by omega), x149 h 2, c0_x, xg_v]
        exact CO.fail h 2
  · rw [if_neg e, gb_neg e, x149 h 1, c0_x, xg_v]
    exact CO.fail h 1
theorem x146 (h : CT m N b n T i) : CO N m (fun v => some (.long v)) (sName b n i) (am_ca sa sv (d + 2) 146 [.ref (N + 2)] m) := by
  have hK := Kd_lt b n i
  have e1 := x142 (sa := sa) (sv := sv) (d := d) h
  have e2 := x147 (sa := sa) (sv := sv) (d := d) h
  rw [c146, b146_0]
  simp (disch := omega) only [gq_true, gb_true, gb_false, true_and, and_true, eq_self, not_false_eq_true, not_true_eq_false, true_or, or_true, false_or, or_false, false_and, and_false, c0_v, ci_v, cl_v, cf_v, pk_mul, nI_add, nI_clamp, nI_lt0, nI_0le, nI_eq0, nI_lt0r, nI_ltE, nI_leE, nI_eqE, nI_m1, in_t, ba0, ba1, Nat.one_ne_zero, Nat.reduceEqDiff, Nat.reduceLeDiff, Nat.add_eq_zero_iff, xk2 h.1, e1]
  unfold sName
  by_cases e : Kd b n i = 2
  · rw [if_pos e, gb_pos e, e2, cl_v]
    show _ = some (Sum.inl (some (Value.long (Vl b n i))), stp m N i)
    rw [stp_id h]
  · rw [if_neg e, gb_neg e, x149 h 1, c0_x, xg_v]
    exact CO.fail h 1
theorem x148 (h : CT m N b n T i) (why : Nat) (hw : why < 100) : CO N m (fun _ => none) (sSemi b n why i) (am_ca sa sv (d + 2) 148 [.ref (N + 2), .int (nI why)] m) := by
  have hK := Kd_lt b n i
  have e1 := x142 (sa := sa) (sv := sv) (d := d) h
  rw [c148, b148_0]
  simp (disch := omega) only [gq_true, gb_true, gb_false, true_and, and_true, eq_self, not_false_eq_true, not_true_eq_false, true_or, or_true, false_or, or_false, false_and, and_false, c0_v, ci_v, cl_v, cf_v, pk_mul, nI_add, nI_clamp, nI_lt0, nI_0le, nI_eq0, nI_lt0r, nI_ltE, nI_leE, nI_eqE, nI_m1, in_t, ba0, ba1, Nat.one_ne_zero, Nat.reduceEqDiff, Nat.reduceLeDiff, Nat.add_eq_zero_iff, xk2 h.1, e1]
  unfold sSemi
  by_cases e : Kd b n i = 4
  · rw [if_pos e, gb_pos e, b148_13]
    simp (disch := omega) only [gq_true, gb_true, gb_false, true_and, and_true, eq_self, not_false_eq_true, not_true_eq_false, true_or, or_true, false_or, or_false, false_and, and_false, c0_v, ci_v, cl_v, cf_v, pk_mul, nI_add, nI_clamp, nI_lt0, nI_0le, nI_eq0, nI_lt0r, nI_ltE, nI_leE, nI_eqE, nI_m1, in_t, ba0, ba1, Nat.one_ne_zero, Nat.reduceEqDiff, Nat.reduceLeDiff, Nat.add_eq_zero_iff, xk2 h.1]
    by_cases w : why = 0
    · rw [if_pos w, gb_pos w, x143 h (h.lt (by omega)), c0_v]
      rfl
    · rw [if_neg w, gb_neg w]
      have hF : Fr (fun a k => a = N + 2 ∧ k = 8) m (si_ m (N + 2) 8 (nI why)) := (Fr.refl _ _).si ⟨rfl, rfl⟩
      obtain ⟨h1, ⟨h2, h2'⟩, h3, h4, h5, h6, h7, h8, h9⟩ := h
      have hX8 := h1.frg hF (fun a k z => XF.a2 z.1 (by have := z.2; omega))
      have f5 : gi_ (si_ (si_ m (N + 2) 8 (nI why)) (N + 2) 6 (nI 5)) (N + 2) 5 = nI i := by rw [gi_si, if_neg (by omega), gi_si, if_neg (by omega)]; exact h7
      have f4 : gi_ (si_ (si_ m (N + 2) 8 (nI why)) (N + 2) 6 (nI 5)) (N + 2) 4 = nI (T + 1) := by rw [gi_si, if_neg (by omega), gi_si, if_neg (by omega)]; exact h2
      have fs : gi_ (si_ (si_ m (N + 2) 8 (nI why)) (N + 2) 6 (nI 5)) (N + 5) i = nI (St b n i) := by rw [gi_si, if_neg (by omega), gi_si, if_neg (by omega)]; exact (h2' i (by omega)).2.1
      have hfail : am_ca sa sv (d + 1) 149 [.ref (N + 2), .int (nI 5)] (si_ m (N + 2) 8 (nI why)) = some (.inr 1, th_ (fl2 (si_ m (N + 2) 8 (nI why)) N 5 (St b n i))) := by
        rw [c149, b149_0]
        simp (disch := omega) only [gq_true, gb_true, gb_false, true_and, and_true, eq_self, not_false_eq_true, not_true_eq_false, true_or, or_true, false_or, or_false, false_and, and_false, c0_v, ci_v, cl_v, cf_v, pk_mul, nI_add, nI_clamp, nI_lt0, nI_0le, nI_eq0, nI_lt0r, nI_ltE, nI_leE, nI_eqE, nI_m1, in_t, ba0, ba1, Nat.one_ne_zero, Nat.reduceEqDiff, Nat.reduceLeDiff, Nat.add_eq_zero_iff, xk2 hX8, f5, f4, eq_false (show ¬ T + 1 ≤ i by omega), xr2_2 hX8, xk5 hX8, fs]
        rfl
      rw [hfail, c0_x, xg_v]
      refine ⟨fl2 (si_ m (N + 2) 8 (nI why)) N 5 (St b n i), rfl, (hF.mono fun a k z => ⟨z.1, by have := z.2; omega⟩).trans (fl2_fr _ _ _ _), ?_, ?_, ?_⟩
      · unfold fl2; rw [gi_si, if_neg (by omega), gi_si, if_pos ⟨rfl, rfl⟩]
      · unfold fl2; rw [gi_si, if_pos ⟨rfl, rfl⟩]
      · unfold fl2; rw [gi_si, if_neg (by omega), gi_si, if_neg (by omega), gi_si, if_pos ⟨rfl, rfl⟩]
  · rw [if_neg e, gb_neg e, x149 h 1, c0_x, xg_v]
    exact CO.fail h 1
end I80
