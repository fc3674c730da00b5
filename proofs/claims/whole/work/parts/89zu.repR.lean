/-! a report is written: the reference -/
def PRr (N a k : Nat) : Prop := (a = N + 243 ∧ k = 44) ∨ a = N + 265
def RpR (m : am_M) (N : Nat) (L : List Nat) : Prop := XS m N ∧ gi_ m (N + 243) 44 = nI L.length ∧ ∀ k, k < L.length → gi_ m (N + 265) k = nI (L.getD k 0)
def px_ (j : Nat) : Int64 := if j = 0 then 0 else Int64.ofNat (10 ^ (j - 1))
theorem px_s (j : Nat) : px_ (j + 1) = Int64.ofNat (10 ^ j) := by
  unfold px_
  rw [if_neg (by omega), Nat.add_sub_cancel]
theorem p10_lt {j : Nat} (h : j ≤ 18) : 10 ^ j < 2 ^ 63 := Nat.lt_of_le_of_lt (Nat.pow_le_pow_right (by decide) h) (by decide)
theorem p10_d {j : Nat} (h : j ≤ 18) : Int64.ofNat (10 ^ j) / (10 : Int64) = px_ j := by
  rw [show (10 : Int64) = Int64.ofNat 10 from rfl, l_div (p10_lt h) (by omega)]
  unfold px_
  cases j with
  | zero => rfl
  | succ j =>
    rw [if_neg (by omega), Nat.add_sub_cancel, Nat.pow_succ, Nat.mul_div_cancel _ (by decide)]
theorem l_eq0 {a : Nat} (h : a < 2 ^ 63) (h0 : 0 < a) : (Int64.ofNat a = 0) = False := eq_false (fun z => by
  have h1 : (Int64.ofNat a).toInt = (a : Int) := lg_ofNat_toInt h
  rw [z] at h1
  have : (0 : Int64).toInt = 0 := rfl
  omega)
theorem p10_0 (j : Nat) : 0 < 10 ^ j := Nat.pow_pos (by decide)
section R89
variable {sa sv d N n B : Nat} {X : TX} {m m' m1 : am_M} {L : List Nat} {s : Nat → Int32} {q : Nat → Int64}
theorem PRr.x {a k : Nat} (h : PRr N a k) : XF N a k := by
  rcases h with h | h
  · exact XF.a243 h.1 (by omega)
  · exact XF.hi (by omega)
theorem y355 (h : RpR m N L) (c : Nat) (hl : L.length < 3000) : ∃ m', am_ca sa sv (d + 1) 355 [.ref (N + 243), .int (nI c)] m = some (.inl none, m') ∧ Fr (PRr N) m m' ∧ RpR m' N (L ++ [c]) := by
  obtain ⟨hX, h2, h3⟩ := h
  have f : Fr (PRr N) m (si_ (si_ m (N + 265) L.length (nI c)) (N + 243) 44 (nI (L.length + 1))) := ((Fr.refl _ _).si (Or.inr rfl)).si (Or.inl ⟨rfl, rfl⟩)
  have e1 : gi_ (si_ m (N + 265) L.length (nI c)) (N + 243) 44 = nI L.length := (if_neg (by omega)).trans h2
  refine ⟨_, ?_, f, hX.frg f (fun a k z => z.x), ?_, fun k hk => ?_⟩
  · rw [c355, b355_0]
    simp (disch := omega) only [gq_true, gb_true, gb_false, true_and, and_true, eq_self, not_false_eq_true, not_true_eq_false, true_or, or_true, false_or, or_false, false_and, and_false, c0_v, ci_v, cl_v, cf_v, pk_mul, nI_add, nI_clamp, nI_lt0, nI_0le, nI_eq0, nI_lt0r, nI_ltE, nI_leE, nI_eqE, nI_m1, in_t, ba0, ba1, Nat.one_ne_zero, Nat.reduceEqDiff, Nat.reduceLeDiff, Nat.add_eq_zero_iff, xk243 hX, xr243_43 hX, xk265 hX, h2, eq_false (show ¬ N + 265 = 0 by omega), e1]
  · rw [gi_si, if_pos ⟨rfl, rfl⟩, List.length_append]
    rfl
  · rw [List.length_append, List.length_singleton] at hk
    rw [gi_si, if_neg (by omega), gi_si, getD_app]
    by_cases e : k = L.length
    · rw [if_pos ⟨rfl, e⟩, if_pos e]
    · rw [if_neg (fun z => e z.2), if_neg e]
      exact h3 k (by omega)
theorem y357_3 (h : RpR m N L) (n j k : Nat) (hn : n < 2 ^ 40) (hg : (0 < n / 32 ^ j) = (0 < n / 32 ^ j % 32)) (hk : k = 5 * j) (hj : j < 8) (e : ((nI k).toInt64 &&& 63).toBitVec.smod 64 = BitVec.ofNat 64 k) (hl : L.length < 3000) : ∃ m', r357 sa sv (d + 1) 3 [some (.ref (N + 243)), some (.long (Int64.ofNat n)), none, some (.int (nI k))] [] m = r357 sa sv (d + 1) 3 [some (.ref (N + 243)), some (.long (Int64.ofNat n)), none, some (.int (nI k + -5))] [] m' ∧ Fr (PRr N) m m' ∧ RpR m' N (L ++ emS n j) := by
  have p : 2 ^ k = 32 ^ j := by rw [hk, Nat.pow_mul]
  have b63 : n / 32 ^ j < 2 ^ 63 := Nat.lt_of_le_of_lt (Nat.div_le_self _ _) (by omega)
  have u : Int64.ofNat n >>> ((nI k).toInt64 &&& 63) = Int64.ofNat (n / 32 ^ j) := by rw [l_shr (by omega) (by omega) e, p]
  have v : (Int64.ofNat (n / 32 ^ j) &&& (31 : Int64)).toInt32 = nI (n / 32 ^ j % 32) := by rw [l_and31 b63, l_i32 (by omega)]
  have w : (Int64.ofNat (n / 32 ^ j) ≤ 0) = (n / 32 ^ j ≤ 0) := l_leI b63 (b := 0) (by decide)
  have hk0 : ¬ nI k < 0 := by
    have := nI_lt0 (n := k) (by omega)
    rw [this]
    exact id
  unfold emS
  by_cases z : n / 32 ^ j % 32 = 0
  · rw [if_pos z, List.append_nil]
    have z2 : (n / 32 ^ j ≤ 0) = True := eq_true (by
      rcases Nat.eq_zero_or_pos (n / 32 ^ j) with y | y
      · omega
      · have := hg.mp y
        omega)
    refine ⟨m, ?_, Fr.refl _ _, h⟩
    rw [b357_3, gb_neg hk0]
    simp (disch := omega) only [gq_true, gb_true, gb_false, true_and, and_true, eq_self, not_false_eq_true, not_true_eq_false, true_or, or_true, false_or, or_false, false_and, and_false, c0_v, ci_v, cl_v, cf_v, pk_mul, nI_add, nI_clamp, nI_lt0, nI_0le, nI_eq0, nI_lt0r, nI_ltE, nI_leE, nI_eqE, nI_m1, in_t, ba0, ba1, Nat.one_ne_zero, Nat.reduceEqDiff, Nat.reduceLeDiff, Nat.add_eq_zero_iff, u, lgc_le, w, z2]
  · rw [if_neg z]
    obtain ⟨m1, a1, a2, a3⟩ := y355 (sa := sa) (sv := sv) (d := d) h (96 + n / 32 ^ j % 32) hl
    refine ⟨m1, ?_, a2, a3⟩
    have z2 : (n / 32 ^ j ≤ 0) = False := eq_false (fun y => z (by
      have : n / 32 ^ j = 0 := Nat.le_zero.mp y
      rw [this]))
    rw [b357_3, gb_neg hk0]
    simp (disch := omega) only [gq_true, gb_true, gb_false, true_and, and_true, eq_self, not_false_eq_true, not_true_eq_false, true_or, or_true, false_or, or_false, false_and, and_false, c0_v, ci_v, cl_v, cf_v, pk_mul, nI_add, nI_clamp, nI_lt0, nI_0le, nI_eq0, nI_lt0r, nI_ltE, nI_leE, nI_eqE, nI_m1, in_t, ba0, ba1, Nat.one_ne_zero, Nat.reduceEqDiff, Nat.reduceLeDiff, Nat.add_eq_zero_iff, u, lgc_le, w, z2, v, xk243 h.1, a1]
theorem y357 (h : RpR m N L) {x : Int64} (hx : gdn_ x) (hl : L.length + 8 ≤ 3000) : ∃ m', am_ca sa sv (d + 2) 357 [.ref (N + 243), .long x] m = some (.inl none, m') ∧ Fr (PRr N) m m' ∧ RpR m' N (L ++ namL x) := by
  obtain ⟨g1, g2, g3⟩ := gdn_n hx
  unfold namL
  generalize x.toNatClampNeg = n at *
  subst g1
  have el : ∀ j, (emS n j).length ≤ 1 := fun j => by unfold emS; split <;> simp
  have el := fun j => el j
  obtain ⟨m1, a1, a2, a3⟩ := y357_3 (sa := sa) (sv := sv) (d := d) h n 7 35 g2 (g3 7) rfl (by omega) (by decide) (by omega)
  obtain ⟨m2, b1, b2, b3⟩ := y357_3 (sa := sa) (sv := sv) (d := d) a3 n 6 30 g2 (g3 6) rfl (by omega) (by decide) (by have := el 7; simp only [List.length_append] at *; omega)
  obtain ⟨m3, c1, c2, c3⟩ := y357_3 (sa := sa) (sv := sv) (d := d) b3 n 5 25 g2 (g3 5) rfl (by omega) (by decide) (by have := el 7; have := el 6; simp only [List.length_append] at *; omega)
  obtain ⟨m4, d1, d2, d3⟩ := y357_3 (sa := sa) (sv := sv) (d := d) c3 n 4 20 g2 (g3 4) rfl (by omega) (by decide) (by have := el 7; have := el 6; have := el 5; simp only [List.length_append] at *; omega)
  obtain ⟨m5, e1, e2, e3⟩ := y357_3 (sa := sa) (sv := sv) (d := d) d3 n 3 15 g2 (g3 3) rfl (by omega) (by decide) (by have := el 7; have := el 6; have := el 5; have := el 4; simp only [List.length_append] at *; omega)
  obtain ⟨m6, f1, f2, f3⟩ := y357_3 (sa := sa) (sv := sv) (d := d) e3 n 2 10 g2 (g3 2) rfl (by omega) (by decide) (by have := el 7; have := el 6; have := el 5; have := el 4; have := el 3; simp only [List.length_append] at *; omega)
  obtain ⟨m7, k1, k2, k3⟩ := y357_3 (sa := sa) (sv := sv) (d := d) f3 n 1 5 g2 (g3 1) rfl (by omega) (by decide) (by have := el 7; have := el 6; have := el 5; have := el 4; have := el 3; have := el 2; simp only [List.length_append] at *; omega)
  obtain ⟨m8, l1, l2, l3⟩ := y357_3 (sa := sa) (sv := sv) (d := d) k3 n 0 0 g2 (g3 0) rfl (by omega) (by decide) (by have := el 7; have := el 6; have := el 5; have := el 4; have := el 3; have := el 2; have := el 1; simp only [List.length_append] at *; omega)
  refine ⟨m8, ?_, ((((((a2.trans b2).trans c2).trans d2).trans e2).trans f2).trans k2).trans l2, ?_⟩
  · rw [c357, b357_0, a1, show nI 35 + -5 = nI 30 by decide, b1, show nI 30 + -5 = nI 25 by decide, c1, show nI 25 + -5 = nI 20 by decide, d1, show nI 20 + -5 = nI 15 by decide, e1, show nI 15 + -5 = nI 10 by decide, f1, show nI 10 + -5 = nI 5 by decide, k1, show nI 5 + -5 = nI 0 by decide, l1, b357_3, gb_pos (by decide)]
  · have : emL n 8 = emS n 7 ++ (emS n 6 ++ (emS n 5 ++ (emS n 4 ++ (emS n 3 ++ (emS n 2 ++ (emS n 1 ++ (emS n 0 ++ []))))))) := by
      rw [emL_s, emL_s, emL_s, emL_s, emL_s, emL_s, emL_s, emL_s]
      rfl
    rw [this]
    simpa only [List.append_assoc, List.append_nil] using l3
theorem y356_2 (n : Nat) (hn : n < 2 ^ 63) : ∀ (f j : Nat), j + f + 1 = ndg n → r356 sa sv d 2 [some (.ref (N + 243)), some (.long (Int64.ofNat n)), none, some (.long (Int64.ofNat (10 ^ j))), none] [] m = r356 sa sv d 21 [some (.ref (N + 243)), some (.long (Int64.ofNat n)), none, some (.long (px_ (ndg n))), none] [] m := by
  have s := ndg_s n (by omega)
  have l19 := ndg_le n
  have q : ∀ j, n / 10 ^ j / 10 = n / 10 ^ (j + 1) := fun j => by rw [Nat.div_div_eq_div_mul, Nat.pow_succ]
  have lt : ∀ j, n / 10 ^ j < 2 ^ 63 := fun j => Nat.lt_of_le_of_lt (Nat.div_le_self _ _) hn
  have dv : ∀ j, j ≤ 18 → Int64.ofNat n / Int64.ofNat (10 ^ j) = Int64.ofNat (n / 10 ^ j) := fun j hj => l_div hn (p10_lt hj)
  have l9 : ∀ j, (Int64.ofNat (n / 10 ^ j) ≤ 9) = (n / 10 ^ j ≤ 9) := fun j => l_leI (lt j) (b := 9) (by omega)
  intro f
  induction f with
  | zero =>
    intro j hj
    have e : j + 1 = ndg n := hj
    have z : (n / 10 ^ j ≤ 9) = True := eq_true (by
      have := s.1
      rw [← e, ← q] at this
      omega)
    rw [← e, px_s, b356_2]
    simp (disch := omega) only [gq_true, gb_true, gb_false, true_and, and_true, eq_self, not_false_eq_true, not_true_eq_false, true_or, or_true, false_or, or_false, false_and, and_false, c0_v, ci_v, cl_v, cf_v, pk_mul, nI_add, nI_clamp, nI_lt0, nI_0le, nI_eq0, nI_lt0r, nI_ltE, nI_leE, nI_eqE, nI_m1, in_t, ba0, ba1, Nat.one_ne_zero, Nat.reduceEqDiff, Nat.reduceLeDiff, Nat.add_eq_zero_iff, l_eq0 (p10_lt (j := j) (by omega)) (p10_0 j), dv j (by omega), lgc_le, l9 j, z]
  | succ f ih =>
    intro j hj
    have nz := s.2 j (by omega)
    have z : (n / 10 ^ j ≤ 9) = False := eq_false (fun y => by
      rw [← q] at nz
      exact nz (Nat.div_eq_of_lt (Nat.lt_succ_of_le y)))
    have m10 : Int64.ofNat (10 ^ j) * (10 : Int64) = Int64.ofNat (10 ^ (j + 1)) := by
      rw [show (10 : Int64) = Int64.ofNat 10 from rfl, ← Int64.ofNat_mul, Nat.pow_succ]
    rw [b356_2]
    simp (disch := omega) only [gq_true, gb_true, gb_false, true_and, and_true, eq_self, not_false_eq_true, not_true_eq_false, true_or, or_true, false_or, or_false, false_and, and_false, c0_v, ci_v, cl_v, cf_v, pk_mul, nI_add, nI_clamp, nI_lt0, nI_0le, nI_eq0, nI_lt0r, nI_ltE, nI_leE, nI_eqE, nI_m1, in_t, ba0, ba1, Nat.one_ne_zero, Nat.reduceEqDiff, Nat.reduceLeDiff, Nat.add_eq_zero_iff, l_eq0 (p10_lt (j := j) (by omega)) (p10_0 j), dv j (by omega), lgc_le, l9 j, z, m10]
    exact ih (j + 1) (by omega)
theorem y356_21 (n : Nat) (hn : n < 2 ^ 63) : ∀ (j : Nat) (m : am_M) (L : List Nat), j ≤ 19 → RpR m N L → L.length + j ≤ 3000 → ∃ m', r356 sa sv (d + 1) 21 [some (.ref (N + 243)), some (.long (Int64.ofNat n)), none, some (.long (px_ j)), none] [] m = some (.inl none, m') ∧ Fr (PRr N) m m' ∧ RpR m' N (L ++ emN n j) := by
  have lt : ∀ j, n / 10 ^ j < 2 ^ 63 := fun j => Nat.lt_of_le_of_lt (Nat.div_le_self _ _) hn
  have n10 : ((10 : Int64) = 0) = False := eq_false (by decide)
  intro j
  induction j with
  | zero =>
    intro m L _ h _
    refine ⟨m, ?_, Fr.refl _ _, by rw [emN, List.append_nil]; exact h⟩
    rw [b356_21]
    exact gb_pos (by decide)
  | succ j ih =>
    intro m L hj h hl
    obtain ⟨m1, a1, a2, a3⟩ := y355 (sa := sa) (sv := sv) (d := d) h (48 + n / 10 ^ j % 10) (by omega)
    obtain ⟨m2, b1, b2, b3⟩ := ih m1 _ (by omega) a3 (by rw [List.length_append, List.length_singleton]; omega)
    refine ⟨m2, ?_, a2.trans b2, ?_⟩
    · have z : (Int64.ofNat (10 ^ j) ≤ 0) = False := eq_false (fun y => by
        have y2 : Int64.ofNat (10 ^ j) ≤ Int64.ofNat 0 := y
        rw [l_leI (p10_lt (by omega)) (by omega)] at y2
        have := p10_0 j
        omega)
      rw [px_s, b356_21]
      simp (disch := omega) only [gq_true, gb_true, gb_false, true_and, and_true, eq_self, not_false_eq_true, not_true_eq_false, true_or, or_true, false_or, or_false, false_and, and_false, c0_v, ci_v, cl_v, cf_v, pk_mul, nI_add, nI_clamp, nI_lt0, nI_0le, nI_eq0, nI_lt0r, nI_ltE, nI_leE, nI_eqE, nI_m1, in_t, ba0, ba1, Nat.one_ne_zero, Nat.reduceEqDiff, Nat.reduceLeDiff, Nat.add_eq_zero_iff, lgc_le, z, l_eq0 (p10_lt (j := j) (by omega)) (p10_0 j), n10, xk243 h.1, l_div hn (p10_lt (j := j) (by omega)), l_dig2 (lt j), a1, p10_d (j := j) (by omega)]
      exact b1
    · rw [List.append_assoc] at b3
      exact b3
theorem y356 (h : RpR m N L) (n : Nat) (hn : n < 2 ^ 63) (hl : L.length + 19 ≤ 3000) : ∃ m', am_ca sa sv (d + 2) 356 [.ref (N + 243), .long (Int64.ofNat n)] m = some (.inl none, m') ∧ Fr (PRr N) m m' ∧ RpR m' N (L ++ numL n) := by
  have l19 := ndg_le n
  have l1 : 1 ≤ ndg n := by unfold ndg; omega
  have a1 := y356_2 (sa := sa) (sv := sv) (d := d + 1) (N := N) (m := m) n hn (ndg n - 1) 0 (by omega)
  obtain ⟨m2, b1, b2, b3⟩ := y356_21 (sa := sa) (sv := sv) (d := d) n hn (ndg n) m L l19 h (by omega)
  refine ⟨m2, ?_, b2, b3⟩
  rw [c356, b356_0]
  exact a1.trans b1
end R89
