/-! a report is written: the class -/
def PRb (N a k : Nat) : Prop := (a = N + 23 ∧ k = 2) ∨ a = N + 24
def PRp (N a k : Nat) : Prop := (a = N + 23 ∧ k = 2) ∨ a = N + 24 ∨ a = N + 25
def RpC (m : am_M) (N : Nat) (L : List Nat) : Prop := XS m N ∧ gi_ m (N + 23) 2 = nI L.length ∧ ∀ k, k < L.length → gi_ m (N + 24) k = nI (L.getD k 0)
def emS (n j : Nat) : List Nat := if n / 32 ^ j % 32 = 0 then [] else [96 + n / 32 ^ j % 32]
theorem emL_s (n j : Nat) : emL n (j + 1) = emS n j ++ emL n j := by
  rw [emL]
  unfold emS
  split <;> rfl
theorem getD_app (L : List Nat) (c k : Nat) : (L ++ [c]).getD k 0 = if k = L.length then c else L.getD k 0 := by
  rw [List.getD_eq_getElem?_getD, List.getD_eq_getElem?_getD, List.getElem?_append]
  split
  · rename_i h
    rw [if_neg (by omega)]
  · rename_i h
    by_cases e : k = L.length
    · rw [if_pos e, e, Nat.sub_self]
      rfl
    · rw [if_neg e, List.getElem?_eq_none (by rw [List.length_singleton]; omega), List.getElem?_eq_none (by omega)]
theorem nI_d1 (i : Nat) : nI (i + 1) + -1 = nI i := by
  rw [← Int32.sub_eq_add_neg]
  exact nI_pred i
def dx_ (j : Nat) : Int32 := if j = 0 then -1 else nI (j - 1)
theorem dx_s (j : Nat) : dx_ (j + 1) = nI j := by
  unfold dx_
  rw [if_neg (by omega), Nat.add_sub_cancel]
theorem dx_d (j : Nat) : nI j + -1 = dx_ j := by
  unfold dx_
  cases j with
  | zero => decide
  | succ j => rw [if_neg (by omega), nI_d1, Nat.add_sub_cancel]
section I89
variable {sa sv d N n B : Nat} {m m' m1 : am_M} {L : List Nat}
theorem PRp.x {a k : Nat} (h : PRp N a k) : XF N a k := by
  rcases h with h | h | h
  · exact XF.a23 h.1 (by omega)
  · exact XF.a26 (by omega)
  · exact XF.a26 (by omega)
theorem PRb.p {a k : Nat} (h : PRb N a k) : PRp N a k := by unfold PRb at h; unfold PRp; omega
theorem x93 (h : RpC m N L) (c : Nat) (hc : c < 128) (hl : L.length < 3840) : ∃ m', am_ca sa sv (d + 1) 93 [.ref (N + 23), .int (nI c)] m = some (.inl none, m') ∧ Fr (PRb N) m m' ∧ RpC m' N (L ++ [c]) := by
  obtain ⟨hX, h2, h3⟩ := h
  have f : Fr (PRb N) m (si_ (si_ m (N + 24) L.length (nI c)) (N + 23) 2 (nI (L.length + 1))) := ((Fr.refl _ _).si (Or.inr rfl)).si (Or.inl ⟨rfl, rfl⟩)
  have e1 : gi_ (si_ m (N + 24) L.length (nI c)) (N + 23) 2 = nI L.length := (if_neg (by omega)).trans h2
  refine ⟨_, ?_, f, hX.frg f (fun a k z => z.p.x), ?_, fun k hk => ?_⟩
  · rw [c93, b93_0]
    simp (disch := omega) only [gq_true, gb_true, gb_false, true_and, and_true, eq_self, not_false_eq_true, not_true_eq_false, true_or, or_true, false_or, or_false, false_and, and_false, c0_v, ci_v, cl_v, cf_v, pk_mul, nI_add, nI_clamp, nI_lt0, nI_0le, nI_eq0, nI_lt0r, nI_ltE, nI_leE, nI_eqE, nI_m1, in_t, ba0, ba1, Nat.one_ne_zero, Nat.reduceEqDiff, Nat.reduceLeDiff, Nat.add_eq_zero_iff, xk23 hX, xr23_0 hX, xk24 hX, h2, eq_false (show ¬ N + 24 = 0 by omega), eq_false (show ¬ 3840 ≤ L.length by omega), i8_lo hc, e1]
  · rw [gi_si, if_pos ⟨rfl, rfl⟩, List.length_append]
    rfl
  · rw [List.length_append, List.length_singleton] at hk
    rw [gi_si, if_neg (by omega), gi_si, getD_app]
    by_cases e : k = L.length
    · rw [if_pos ⟨rfl, e⟩, if_pos e]
    · rw [if_neg (fun z => e z.2), if_neg e]
      exact h3 k (by omega)
theorem x94_3 (h : RpC m N L) (n j k : Nat) (hn : n < 2 ^ 40) (hk : k = 5 * j) (hj : j < 8) (e : ((nI k).toInt64 &&& 63).toBitVec.smod 64 = BitVec.ofNat 64 k) (hl : L.length < 3840) (o4 : Option Value) : ∃ m' o', r94 sa sv (d + 1) 3 [some (.ref (N + 23)), some (.long (Int64.ofNat n)), none, some (.int (nI k)), o4] [] m = r94 sa sv (d + 1) 3 [some (.ref (N + 23)), some (.long (Int64.ofNat n)), none, some (.int (nI k + -5)), o'] [] m' ∧ Fr (PRb N) m m' ∧ RpC m' N (L ++ emS n j) := by
  have p : 2 ^ k = 32 ^ j := by rw [hk, Nat.pow_mul]
  have v : ((Int64.ofNat n >>> ((nI k).toInt64 &&& 63)) &&& (31 : Int64)).toInt32 = nI (n / 32 ^ j % 32) := by
    rw [l_shr (by omega) (by omega) e, p, l_and31 (Nat.lt_of_le_of_lt (Nat.div_le_self _ _) (by omega)), l_i32 (by omega)]
  unfold emS
  by_cases z : n / 32 ^ j % 32 = 0
  · rw [if_pos z, List.append_nil]
    refine ⟨m, some (.int (nI (n / 32 ^ j % 32))), ?_, Fr.refl _ _, h⟩
    rw [b94_3]
    simp (disch := omega) only [gq_true, gb_true, gb_false, true_and, and_true, eq_self, not_false_eq_true, not_true_eq_false, true_or, or_true, false_or, or_false, false_and, and_false, c0_v, ci_v, cl_v, cf_v, pk_mul, nI_add, nI_clamp, nI_lt0, nI_0le, nI_eq0, nI_lt0r, nI_ltE, nI_leE, nI_eqE, nI_m1, in_t, ba0, ba1, Nat.one_ne_zero, Nat.reduceEqDiff, Nat.reduceLeDiff, Nat.add_eq_zero_iff, v, z, nI_le0, Nat.le_refl]
  · rw [if_neg z]
    obtain ⟨m1, a1, a2, a3⟩ := x93 (sa := sa) (sv := sv) (d := d) h (96 + n / 32 ^ j % 32) (by omega) hl
    refine ⟨m1, some (.int (nI (n / 32 ^ j % 32))), ?_, a2, a3⟩
    have e9 : nI (97 + n / 32 ^ j % 32) - nI 1 = nI (96 + n / 32 ^ j % 32) := by
      rw [show 97 + n / 32 ^ j % 32 = 96 + n / 32 ^ j % 32 + 1 by omega, nI_p1]
    have nz : (nI (n / 32 ^ j % 32) ≤ 0) = False := eq_false (fun y => z (by
      have := (nI_leI (a := n / 32 ^ j % 32) (b := 0) (by omega) (by omega)).mp y
      omega))
    rw [b94_3]
    simp (disch := omega) only [gq_true, gb_true, gb_false, true_and, and_true, eq_self, not_false_eq_true, not_true_eq_false, true_or, or_true, false_or, or_false, false_and, and_false, c0_v, ci_v, cl_v, cf_v, pk_mul, nI_add, nI_clamp, nI_lt0, nI_0le, nI_eq0, nI_lt0r, nI_ltE, nI_leE, nI_eqE, nI_m1, in_t, ba0, ba1, Nat.one_ne_zero, Nat.reduceEqDiff, Nat.reduceLeDiff, Nat.add_eq_zero_iff, v, nz, xk23 h.1, e9, a1]
theorem x94 (h : RpC m N L) {x : Int64} (hx : gdn_ x) (hl : L.length + 8 ≤ 3840) : ∃ m', am_ca sa sv (d + 2) 94 [.ref (N + 23), .long x] m = some (.inl none, m') ∧ Fr (PRb N) m m' ∧ RpC m' N (L ++ namL x) := by
  obtain ⟨g1, g2, g3⟩ := gdn_n hx
  unfold namL
  generalize x.toNatClampNeg = n at *
  subst g1
  have el : ∀ j, (emS n j).length ≤ 1 := fun j => by unfold emS; split <;> simp
  have el := fun j => el j
  obtain ⟨m1, o1, a1, a2, a3⟩ := x94_3 (sa := sa) (sv := sv) (d := d) h n 7 35 g2 rfl (by omega) (by decide) (by omega) none
  obtain ⟨m2, o2, b1, b2, b3⟩ := x94_3 (sa := sa) (sv := sv) (d := d) a3 n 6 30 g2 rfl (by omega) (by decide) (by have := el 7; simp only [List.length_append] at *; omega) o1
  obtain ⟨m3, o3, c1, c2, c3⟩ := x94_3 (sa := sa) (sv := sv) (d := d) b3 n 5 25 g2 rfl (by omega) (by decide) (by have := el 7; have := el 6; simp only [List.length_append] at *; omega) o2
  obtain ⟨m4, o4, d1, d2, d3⟩ := x94_3 (sa := sa) (sv := sv) (d := d) c3 n 4 20 g2 rfl (by omega) (by decide) (by have := el 7; have := el 6; have := el 5; simp only [List.length_append] at *; omega) o3
  obtain ⟨m5, o5, e1, e2, e3⟩ := x94_3 (sa := sa) (sv := sv) (d := d) d3 n 3 15 g2 rfl (by omega) (by decide) (by have := el 7; have := el 6; have := el 5; have := el 4; simp only [List.length_append] at *; omega) o4
  obtain ⟨m6, o6, f1, f2, f3⟩ := x94_3 (sa := sa) (sv := sv) (d := d) e3 n 2 10 g2 rfl (by omega) (by decide) (by have := el 7; have := el 6; have := el 5; have := el 4; have := el 3; simp only [List.length_append] at *; omega) o5
  obtain ⟨m7, o7, k1, k2, k3⟩ := x94_3 (sa := sa) (sv := sv) (d := d) f3 n 1 5 g2 rfl (by omega) (by decide) (by have := el 7; have := el 6; have := el 5; have := el 4; have := el 3; have := el 2; simp only [List.length_append] at *; omega) o6
  obtain ⟨m8, o8, l1, l2, l3⟩ := x94_3 (sa := sa) (sv := sv) (d := d) k3 n 0 0 g2 rfl (by omega) (by decide) (by have := el 7; have := el 6; have := el 5; have := el 4; have := el 3; have := el 2; have := el 1; simp only [List.length_append] at *; omega) o7
  refine ⟨m8, ?_, ((((((a2.trans b2).trans c2).trans d2).trans e2).trans f2).trans k2).trans l2, ?_⟩
  · rw [c94, b94_0, a1, show nI 35 + -5 = nI 30 by decide, b1, show nI 30 + -5 = nI 25 by decide, c1, show nI 25 + -5 = nI 20 by decide, d1, show nI 20 + -5 = nI 15 by decide, e1, show nI 15 + -5 = nI 10 by decide, f1, show nI 10 + -5 = nI 5 by decide, k1, show nI 5 + -5 = nI 0 by decide, l1, b94_3, gb_pos (by decide)]
  · have : emL n 8 = emS n 7 ++ (emS n 6 ++ (emS n 5 ++ (emS n 4 ++ (emS n 3 ++ (emS n 2 ++ (emS n 1 ++ (emS n 0 ++ []))))))) := by
      rw [emL_s, emL_s, emL_s, emL_s, emL_s, emL_s, emL_s, emL_s]
      rfl
    rw [this]
    simpa only [List.append_assoc, List.append_nil] using l3
def DgC (m : am_M) (N n j : Nat) : Prop := ∀ i, i < j → gi_ m (N + 25) i = nI (48 + n / 10 ^ i % 10)
theorem x95_5 (n : Nat) (hn : n < 2 ^ 63) : ∀ (f j : Nat) (m : am_M) (o6 : Option Value), j + f + 1 = ndg n → RpC m N L → DgC m N n j → ∃ m' l4, r95 sa sv d 5 [some (.ref (N + 23)), some (.long (Int64.ofNat n)), none, some (.int (nI j)), some (.long (Int64.ofNat (n / 10 ^ j))), none, o6] [] m = r95 sa sv d 55 [some (.ref (N + 23)), some (.long (Int64.ofNat n)), none, some (.int (nI (ndg n))), some (.long l4), none, some (.int (dx_ (ndg n)))] [] m' ∧ Fr (PRp N) m m' ∧ RpC m' N L ∧ DgC m' N n (ndg n) := by
  have s := ndg_s n (by omega)
  have l19 := ndg_le n
  have q : ∀ j, n / 10 ^ j / 10 = n / 10 ^ (j + 1) := fun j => by rw [Nat.div_div_eq_div_mul, Nat.pow_succ]
  have lt : ∀ j, n / 10 ^ j < 2 ^ 63 := fun j => Nat.lt_of_le_of_lt (Nat.div_le_self _ _) hn
  have d10 : ∀ j, Int64.ofNat (n / 10 ^ j) / (10 : Int64) = Int64.ofNat (n / 10 ^ (j + 1)) := fun j => by
    rw [show (10 : Int64) = Int64.ofNat 10 from rfl, l_div (lt j) (by omega), q]
  have dg : ∀ j, ((48 : Int64) + (Int64.ofNat (n / 10 ^ j) - Int64.ofNat (n / 10 ^ (j + 1)) * (10 : Int64))).toInt32 = nI (48 + n / 10 ^ j % 10) := fun j => by
    rw [← d10]
    exact l_dig (lt j)
  have n10 : ((10 : Int64) = 0) = False := eq_false (by decide)
  have step : ∀ (j : Nat) (m : am_M), j < 20 → RpC m N L → DgC m N n j → Fr (PRp N) m (si_ m (N + 25) j (nI (48 + n / 10 ^ j % 10))) ∧ RpC (si_ m (N + 25) j (nI (48 + n / 10 ^ j % 10))) N L ∧ DgC (si_ m (N + 25) j (nI (48 + n / 10 ^ j % 10))) N n (j + 1) := fun j m hj h hd => by
    have f : Fr (PRp N) m (si_ m (N + 25) j (nI (48 + n / 10 ^ j % 10))) := (Fr.refl _ _).si (Or.inr (Or.inr rfl))
    refine ⟨f, ⟨h.1.frg f (fun a k z => z.x), (if_neg (by omega)).trans h.2.1, fun k hk => (if_neg (by omega)).trans (h.2.2 k hk)⟩, fun i hi => ?_⟩
    rw [gi_si]
    by_cases e : i = j
    · rw [if_pos ⟨rfl, e⟩, e]
    · rw [if_neg (fun z => e z.2)]
      exact hd i (by omega)
  intro f
  induction f with
  | zero =>
    intro j m o6 hj h hd
    obtain ⟨s1, s2, s3⟩ := step j m (by omega) h hd
    have e : j + 1 = ndg n := hj
    have z0 : (Int64.ofNat (n / 10 ^ (j + 1)) ≤ 0) = True := eq_true (by
      rw [e, s.1]
      decide)
    refine ⟨_, Int64.ofNat (n / 10 ^ (j + 1)), ?_, s1, s2, by rw [← e]; exact s3⟩
    rw [← e, dx_s, b95_5]
    simp (disch := omega) only [gq_true, gb_true, gb_false, true_and, and_true, eq_self, not_false_eq_true, not_true_eq_false, true_or, or_true, false_or, or_false, false_and, and_false, c0_v, ci_v, cl_v, cf_v, pk_mul, nI_add, nI_clamp, nI_lt0, nI_0le, nI_eq0, nI_lt0r, nI_ltE, nI_leE, nI_eqE, nI_m1, in_t, ba0, ba1, Nat.one_ne_zero, Nat.reduceEqDiff, Nat.reduceLeDiff, Nat.add_eq_zero_iff, xk23 h.1, xr23_1 h.1, xk25 h.1, eq_false (show ¬ N + 25 = 0 by omega), d10 j, dg j, n10, i8_lo (c := 48 + n / 10 ^ j % 10) (by omega), lgc_le, z0, nI_p1]
  | succ f ih =>
    intro j m o6 hj h hd
    obtain ⟨s1, s2, s3⟩ := step j m (by omega) h hd
    obtain ⟨m', l4, i1, i2, i3, i4⟩ := ih (j + 1) _ o6 (by omega) s2 s3
    have nz := s.2 j (by omega)
    have z0 : (Int64.ofNat (n / 10 ^ (j + 1)) ≤ 0) = False := eq_false (fun z => by
      have z2 : Int64.ofNat (n / 10 ^ (j + 1)) ≤ Int64.ofNat 0 := z
      rw [l_leI (lt _) (by omega)] at z2
      exact nz (Nat.le_zero.mp z2))
    refine ⟨m', l4, ?_, s1.trans i2, i3, i4⟩
    rw [b95_5]
    simp (disch := omega) only [gq_true, gb_true, gb_false, true_and, and_true, eq_self, not_false_eq_true, not_true_eq_false, true_or, or_true, false_or, or_false, false_and, and_false, c0_v, ci_v, cl_v, cf_v, pk_mul, nI_add, nI_clamp, nI_lt0, nI_0le, nI_eq0, nI_lt0r, nI_ltE, nI_leE, nI_eqE, nI_m1, in_t, ba0, ba1, Nat.one_ne_zero, Nat.reduceEqDiff, Nat.reduceLeDiff, Nat.add_eq_zero_iff, xk23 h.1, xr23_1 h.1, xk25 h.1, eq_false (show ¬ N + 25 = 0 by omega), d10 j, dg j, n10, i8_lo (c := 48 + n / 10 ^ j % 10) (by omega), lgc_le, z0, nI_p1, eq_true (show j + 1 < 20 by omega)]
    exact i1
theorem x95_55 (n : Nat) (a : Int32) (w w4 : Int64) : ∀ (j : Nat) (m : am_M) (L : List Nat), j ≤ 20 → RpC m N L → DgC m N n j → L.length + j ≤ 3840 → ∃ m', r95 sa sv (d + 1) 55 [some (.ref (N + 23)), some (.long w), none, some (.int a), some (.long w4), none, some (.int (dx_ j))] [] m = some (.inl none, m') ∧ Fr (PRb N) m m' ∧ RpC m' N (L ++ emN n j) := by
  intro j
  induction j with
  | zero =>
    intro m L _ h _ _
    refine ⟨m, ?_, Fr.refl _ _, by rw [emN, List.append_nil]; exact h⟩
    rw [b95_55]
    exact gb_pos (by decide)
  | succ j ih =>
    intro m L hj h hd hl
    have c128 : 48 + n / 10 ^ j % 10 < 128 := by omega
    obtain ⟨m1, a1, a2, a3⟩ := x93 (sa := sa) (sv := sv) (d := d) h (48 + n / 10 ^ j % 10) c128 (by omega)
    obtain ⟨m2, b1, b2, b3⟩ := ih m1 _ (by omega) a3 (fun i hi => (a2.2.1 _ _ (by unfold PRb; omega)).trans (hd i (by omega))) (by rw [List.length_append, List.length_singleton]; omega)
    refine ⟨m2, ?_, a2.trans b2, ?_⟩
    · rw [dx_s, b95_55]
      simp (disch := omega) only [gq_true, gb_true, gb_false, true_and, and_true, eq_self, not_false_eq_true, not_true_eq_false, true_or, or_true, false_or, or_false, false_and, and_false, c0_v, ci_v, cl_v, cf_v, pk_mul, nI_add, nI_clamp, nI_lt0, nI_0le, nI_eq0, nI_lt0r, nI_ltE, nI_leE, nI_eqE, nI_m1, in_t, ba0, ba1, Nat.one_ne_zero, Nat.reduceEqDiff, Nat.reduceLeDiff, Nat.add_eq_zero_iff, xk23 h.1, xr23_1 h.1, xk25 h.1, eq_false (show ¬ N + 25 = 0 by omega), hd j (by omega), a1, dx_d]
      exact b1
    · rw [List.append_assoc] at b3
      exact b3
end I89
