/-! a payee's part of all -/
theorem nn32 {r : UInt32} (h : FP.Core.fIsNaN r = false) : vf_n32 r := by
  have h1 : ¬ 2139095040 < r.toNat % 2 ^ 31 := fun z => by
    rw [(FP.Core.isNaN_bits32 r).mpr z] at h
    cases h
  show r &&& 0x7fffffff ≤ 0x7f800000
  rw [UInt32.le_iff_toNat_le, UInt32.toNat_and]
  have e : r.toNat &&& (0x7fffffff : UInt32).toNat = r.toNat % 2 ^ 31 := Nat.and_two_pow_sub_one_eq_mod _ 31
  have e2 : (0x7f800000 : UInt32).toNat = 2139095040 := rfl
  rw [e, e2]
  omega
theorem nn64 {r : UInt64} (h : FP.Core.dIsNaN r = false) : vf_n64 r := by
  have h1 : ¬ 9218868437227405312 < r.toNat % 2 ^ 63 := fun z => by
    rw [(FP.Core.isNaN_bits r).mpr z] at h
    cases h
  show r &&& 0x7fffffffffffffff ≤ 0x7ff0000000000000
  rw [UInt64.le_iff_toNat_le, UInt64.toNat_and]
  have e : r.toNat &&& (0x7fffffffffffffff : UInt64).toNat = r.toNat % 2 ^ 63 := Nat.and_two_pow_sub_one_eq_mod _ 63
  have e2 : (0x7ff0000000000000 : UInt64).toNat = 9218868437227405312 := rfl
  rw [e, e2]
  omega
theorem fz_bits {a : UInt32} (h : FP.Core.FZero a) : a.toNat % 2 ^ 31 = 0 := by
  obtain ⟨s, q, h⟩ := h
  have ht : FP.Core.b32.tails = 8388608 := rfl
  have he : FP.Core.b32.exps = 256 := rfl
  unfold FP.Core.val32 FP.Core.decode at h
  split at h
  · split at h <;> cases h
  · split at h
    · rename_i z
      injection h with h1 h2 h3
      unfold FP.Core.fieldE at z
      unfold FP.Core.fieldT at h2
      rw [ht, he] at z
      rw [ht] at h2
      omega
    · injection h with h1 h2 h3
      rw [ht] at h2
      omega
theorem fd_nn (a b : Int64) (hb : b ≠ 0) : FP.Core.fIsNaN (FP.fdiv (FP.l2f a) (FP.l2f b)) = false :=
  FP.Core.fdiv_out (FP.Core.l2f_notNaN a) (FP.Core.l2f_fin b) (fun z => FP.Core.l2f_ne_zero hb (fz_bits z))
theorem f2d_nn {v : UInt32} (h : FP.Core.fIsNaN v = false) : FP.Core.dIsNaN (FP.f2d v) = false := by
  unfold FP.f2d
  rw [h]
  exact (FP.Core.f2d_nan v).trans h
theorem dc_refl {v : UInt64} (h : FP.Core.dIsNaN v = false) : FP.Core.dcmp v v = some Ordering.eq := FP.Core.dcmp_refl h
theorem f0_nn : FP.Core.fIsNaN 0 = false := by decide
def parV (q : Nat → Int64) (p : Nat) : UInt32 := if ern_ q 10 = 0 then 0 else FP.fdiv (FP.l2f (q (10 + 4 * p + 0))) (FP.l2f (ern_ q 10))
theorem parV_nn (q : Nat → Int64) (p : Nat) : FP.Core.fIsNaN (parV q p) = false := by
  unfold parV
  by_cases h : ern_ q 10 = 0
  · rw [if_pos h]; exact f0_nn
  · rw [if_neg h]; exact fd_nn _ _ h
/-- how a call ends that answers a float -/
def CQf (m : am_M) (N : Nat) (X : TX) (E : Option Nat) (v : UInt32) (r : Option am_R) : Prop := ∃ m', Fr (KC N) m m' ∧ TC m' N X ∧ r = match E with
  | none => some (.inl (some (.float v)), m')
  | some e => some (.inr e, th_ m')
def RQf (m : am_M) (N : Nat) (X : TX) (c : Nat) (v : UInt32) (r : Option am_R) : Prop := ∃ m' v', Fr (KR N) m m' ∧ TR m' N X ∧ r = some (.inl (some (.float v')), m') ∧ gi_ m' (N + 243) 0 = nI c ∧ (c = 0 → v' = v)
section I89
variable {sa sv d N n B o : Nat} {X : TX} {m m' : am_M} {f : Nat → Nat} {s : Nat → Int32} {q : Nat → Int64}
theorem x184 (h : TC m N X) (hG : XG B X) (hN : 0 < N) (hB : B < 2 ^ 30) (l : Int32) : CQf m N X (if inR l (cN X.s 0) = true then none else some 2) (parV X.q l.toNatClampNeg) (am_ca sa sv (d + 4) 184 [.ref N, .int l] m) := by
  obtain ⟨f, hF⟩ := h.f
  have h' := h.cq hF hG hN hB
  have g7 := hF.1.lt (i := 7) (by omega)
  have hO := h.o _ g7
  have hV : OV m (oa N (f 7)) X.s X.q := hF.2.2.2.2.1
  have hX := h.x
  have hC := hG.1.C
  obtain ⟨e0, b0⟩ := (wc_np hC).c (by decide)
  have z19 : (oa N (f 7) + 19 = 0) = False := eq_false (by omega)
  refine ⟨m, Fr.refl _ _, h, ?_⟩
  by_cases z : inR l (cN X.s 0) = true
  · rw [if_pos z]
    obtain ⟨k, hk, rfl⟩ := (inR_t (by omega)).mp z
    rw [nI_clamp (by omega)]
    have q68 := x68 (sa := sa) (sv := sv) (d := d) hO hV
    have q64 := x64 (sa := sa) (sv := sv) (d := d + 1) hO hV k 0 (by omega) (by omega)
    unfold parV
    rw [c184, b184_0]
    simp (disch := omega) only [gq_true, gb_true, gb_false, true_and, and_true, eq_self, not_false_eq_true, not_true_eq_false, true_or, or_true, false_or, or_false, false_and, and_false, c0_v, ci_v, cl_v, cf_v, pk_mul, nI_add, nI_clamp, nI_lt0, nI_0le, nI_eq0, nI_lt0r, nI_ltE, nI_leE, nI_eqE, nI_m1, in_t, ba0, ba1, Nat.one_ne_zero, Nat.reduceEqDiff, Nat.reduceLeDiff, Nat.add_eq_zero_iff, xk0 hX, x212s h' k hk b0, hF.2.1, oa_z, ok0 hO, or0_5 hO, ok19 hO, z19, q68, lgc_eq, q64]
    by_cases y : ern_ X.q 10 = 0
    · rw [gb_pos y, if_pos y]
    · rw [gb_neg y, if_neg y, gq_pos (nn32 (fd_nn _ _ y))]
  · rw [if_neg z, c184, b184_0]
    simp (disch := omega) only [gq_true, gb_true, gb_false, true_and, and_true, eq_self, not_false_eq_true, not_true_eq_false, true_or, or_true, false_or, or_false, false_and, and_false, c0_v, ci_v, cl_v, cf_v, pk_mul, nI_add, nI_clamp, nI_lt0, nI_0le, nI_eq0, nI_lt0r, nI_ltE, nI_leE, nI_eqE, nI_m1, in_t, ba0, ba1, Nat.one_ne_zero, Nat.reduceEqDiff, Nat.reduceLeDiff, Nat.add_eq_zero_iff, xk0 hX, x212f h' l (Bool.eq_false_iff.mpr z), c0_x, xg_v]
end I89
section R89
variable {sa sv d N n B o : Nat} {X : TX} {m m' : am_M} {s : Nat → Int32} {q : Nat → Int64}
theorem ern_10 (hC : WC s) (hZ : WZ s q) : ern_ q (cN s 0) = ern_ q 10 := by
  have n10 := isN_lt (wc_np hC) (by decide)
  have : ∀ k, cN s 0 + k ≤ 10 → ern_ q (cN s 0 + k) = ern_ q (cN s 0) := by
    intro k
    induction k with
    | zero => intro _; rfl
    | succ k ih =>
      intro hk
      have e : ern_ q (cN s 0 + (k + 1)) = ern_ q (cN s 0 + k) + q (10 + 4 * (cN s 0 + k) + 0) := rfl
      rw [e, ih (by omega), wz_t hZ (cN s 0 + k) 0 (by omega) (by omega) (by omega)]
      exact Int64.add_zero _
  rw [← this (10 - cN s 0) (by omega), show cN s 0 + (10 - cN s 0) = 10 by omega]
theorem y315_19 (hR : RS m N s q) (hC : WC s) (hZ : WZ s q) (p : Nat) (hp : p < cN s 0) : ∀ (k i : Nat), i + k = cN s 0 → r315 sa sv d 19 [some (.ref (N + 243)), some (.int (nI p)), some (.long (ern_ q i)), none, some (.int (nI i))] [] m = some (.inl (some (.float (parV q p))), m) := by
  have n10 := isN_lt (wc_np hC) (by decide)
  obtain ⟨e0, b0⟩ := (wc_np hC).c (by decide)
  have g0 : gi_ m (N + 245) 0 = nI (cN s 0) := (congrFun hR.2.1 0).trans e0
  have z245 : (N + 245 = 0) = False := eq_false (by omega)
  have z249 : (N + 249 = 0) = False := eq_false (by omega)
  have hX := hR.1
  have lp : ∀ i, gl_ m (N + 249) (10 + 4 * i) = q (10 + 4 * i + 0) := fun i => congrFun hR.2.2 _
  intro k
  induction k with
  | zero =>
    intro i hi
    rw [show i = cN s 0 by omega, ern_10 hC hZ, b315_19]
    unfold parV
    simp (disch := omega) only [gq_true, gb_true, gb_false, true_and, and_true, eq_self, not_false_eq_true, not_true_eq_false, true_or, or_true, false_or, or_false, false_and, and_false, c0_v, ci_v, cl_v, cf_v, pk_mul, nI_add, nI_clamp, nI_lt0, nI_0le, nI_eq0, nI_lt0r, nI_ltE, nI_leE, nI_eqE, nI_m1, in_t, ba0, ba1, Nat.one_ne_zero, Nat.reduceEqDiff, Nat.reduceLeDiff, Nat.add_eq_zero_iff, xk243 hX, xr243_15 hX, xk245 hX, z245, g0, Nat.le_refl, lgc_eq, xr243_19 hX, xk249 hX, z249, lp]
    by_cases y : ern_ q 10 = 0
    · rw [gb_pos y, if_pos y]
    · rw [gb_neg y, if_neg y, gq_pos (nn32 (fd_nn _ _ y))]
  | succ k ih =>
    intro i hi
    rw [b315_19]
    simp (disch := omega) only [gq_true, gb_true, gb_false, true_and, and_true, eq_self, not_false_eq_true, not_true_eq_false, true_or, or_true, false_or, or_false, false_and, and_false, c0_v, ci_v, cl_v, cf_v, pk_mul, nI_add, nI_clamp, nI_lt0, nI_0le, nI_eq0, nI_lt0r, nI_ltE, nI_leE, nI_eqE, nI_m1, in_t, ba0, ba1, Nat.one_ne_zero, Nat.reduceEqDiff, Nat.reduceLeDiff, Nat.add_eq_zero_iff, xk243 hX, xr243_15 hX, xk245 hX, z245, g0, eq_false (show ¬ cN s 0 ≤ i by omega), xr243_19 hX, xk249 hX, z249, lp]
    exact ih (i + 1) (by omega)
theorem y315 (h : TR m N X) (hs : X.s = gi_ m (N + 245)) (hq : X.q = gl_ m (N + 249)) (hG : XG B X) (l : Int32) : RQf m N X (if inR l (cN X.s 0) = true then 0 else 1) (parV X.q l.toNatClampNeg) (am_ca sa sv (d + 3) 315 [.ref (N + 243), .int l] m) := by
  have hR := h.RS hs hq
  have hC := hG.1.C
  have n10 := isN_lt (wc_np hC) (by decide)
  have q1 := y285 (sa := sa) (sv := sv) (d := d) hR hC l
  by_cases z : inR l (cN X.s 0) = true
  · rw [if_pos z]
    obtain ⟨k, hk, rfl⟩ := (inR_t (by omega)).mp z
    rw [z, tr_t] at q1
    rw [nI_clamp (by omega)]
    have q2 := y225_1 (sa := sa) (sv := sv) (d := d) hR
    have R0 : RS (si_ m (N + 243) 0 (nI 0)) N X.s X.q := hR.c 0 (nI 0)
    have q3 := y315_19 (sa := sa) (sv := sv) (d := d + 2) R0 hC hG.1.1.2.2.2.2.2.1 k hk (cN X.s 0) 0 (by omega)
    refine ⟨_, _, KR.c0 m N (nI 0), h.c0 (nI 0), ?_, if_pos ⟨rfl, rfl⟩, fun _ => rfl⟩
    rw [c315, b315_0]
    simp (disch := omega) only [gq_true, gb_true, gb_false, true_and, and_true, eq_self, not_false_eq_true, not_true_eq_false, true_or, or_true, false_or, or_false, false_and, and_false, c0_v, ci_v, cl_v, cf_v, pk_mul, nI_add, nI_clamp, nI_lt0, nI_0le, nI_eq0, nI_lt0r, nI_ltE, nI_leE, nI_eqE, nI_m1, in_t, ba0, ba1, Nat.one_ne_zero, Nat.reduceEqDiff, Nat.reduceLeDiff, Nat.add_eq_zero_iff, xk243 hR.1, q1, q2]
    exact q3
  · rw [if_neg z]
    rw [Bool.eq_false_iff.mpr z, tr_f] at q1
    have q2 := y225_0 (sa := sa) (sv := sv) (d := d) hR
    refine ⟨_, 0, KR.c0 m N (nI 1), h.c0 (nI 1), ?_, if_pos ⟨rfl, rfl⟩, fun z => by omega⟩
    rw [c315, b315_0]
    simp (disch := omega) only [gq_true, gb_true, gb_false, true_and, and_true, eq_self, not_false_eq_true, not_true_eq_false, true_or, or_true, false_or, or_false, false_and, and_false, c0_v, ci_v, cl_v, cf_v, pk_mul, nI_add, nI_clamp, nI_lt0, nI_0le, nI_eq0, nI_lt0r, nI_ltE, nI_leE, nI_eqE, nI_m1, in_t, ba0, ba1, Nat.one_ne_zero, Nat.reduceEqDiff, Nat.reduceLeDiff, Nat.add_eq_zero_iff, xk243 hR.1, q1, q2]
end R89
