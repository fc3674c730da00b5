/-! a payee's part of all -/
theorem nn32 {r : UInt32} (h : FP.Core.fIsNaN r = false) : vf_n32 r := by
  have h1 : ¬ 2139095040 < r.toNat % 2 ^ 31 := fun z => by
    rw [(FP.Core.isNaN_bits32 r).mpr z] at h
    cases h
  show r &&& 0x7fffffff ≤ 0x7f800000
  rw [UInt32.le_iff_toNat_le, UInt32.toNat_and]
  have e : r.toNat &&& (0x7fffffff : UInt32).toNat = r.toNat % 2 ^ 31 := Nat.and_two_pow_sub_one_eq_mod _ 31
  have e2 : (0x7f800000 : UInt32).toNat = 2139095040 := rfl
  rw [e, e2]
  omega
theorem nn64 {r : UInt64} (h : FP.Core.dIsNaN r = false) : vf_n64 r := by
  have h1 : ¬ 9218868437227405312 < r.toNat % 2 ^ 63 := fun z => by
    rw [(FP.Core.isNaN_bits r).mpr z] at h
    cases h
  show r &&& 0x7fffffffffffffff ≤ 0x7ff0000000000000
  rw [UInt64.le_iff_toNat_le, UInt64.toNat_and]
  have e : r.toNat &&& (0x7fffffffffffffff : UInt64).toNat = r.toNat % 2 ^ 63 := Nat.and_two_pow_sub_one_eq_mod _ 63
  have e2 : (0x7ff0000000000000 : UInt64).toNat = 9218868437227405312 := rfl
  rw [e, e2]
  omega
theorem fz_bits {a : UInt32} (h : FP.Core.FZero a) : a.toNat % 2 ^ 31 = 0 := by
  obtain ⟨s, q, h⟩ := h
  have ht : FP.Core.b32.tails = 8388608 := rfl
  have he : FP.Core.b32.exps = 256 := rfl
  unfold FP.Core.val32 FP.Core.decode at h
  split at h
  · split at h <;> cases h
  · split at h
    · rename_i z
      injection h with h1 h2 h3
      unfold FP.Core.fieldE at z
      unfold FP.Core.fieldT at h2
      rw [ht, he] at z
      rw [ht] at h2
      omega
    · injection h with h1 h2 h3
      rw [ht] at h2
      omega
theorem fd_nn (a b : Int64) (hb : b ≠ 0) : FP.Core.fIsNaN (FP.fdiv (FP.l2f a) (FP.l2f b)) = false :=
  FP.Core.fdiv_out (FP.Core.l2f_notNaN a) (FP.Core.l2f_fin b) (fun z => FP.Core.l2f_ne_zero hb (fz_bits z))
theorem f2d_nn {v : UInt32} (h : FP.Core.fIsNaN v = false) : FP.Core.dIsNaN (FP.f2d v) = false := by
  unfold FP.f2d
  rw [h]
  exact (FP.Core.f2d_nan v).trans h
theorem dc_refl {v : UInt64} (h : FP.Core.dIsNaN v = false) : FP.Core.dcmp v v = some Ordering.eq := FP.Core.dcmp_refl h
theorem f0_nn : FP.Core.fIsNaN 0 = false := by decide
def parV (q : Nat → Int64) (p : Nat) : UInt32 := if ern_ q 10 = 0 then 0 else FP.fdiv (FP.l2f (q (10 + 4 * p + 0))) (FP.l2f (ern_ q 10))
theorem parV_nn (q : Nat → Int64) (p : Nat) : FP.Core.fIsNaN (parV q p) = false := by
  unfold parV
  by_cases h : ern_ q 10 = 0
  · rw [if_pos h]; exact f0_nn
  · rw [if_neg h]; exact fd_nn _ _ h
/-- how a call ends that answers a float -/
def CQf (m : am_M) (N : Nat) (X : TX) (E : Option Nat) (v : UInt32) (r : Option am_R) : Prop := ∃ m', Fr (KC N) m m' ∧ TC m' N X ∧ r = match E with
  | none => some (.inl (some (.float v)), m')
  | some e => some (.inr e, th_ m')
section I89
variable {sa sv d N n B o : Nat} {X : TX} {m m' : am_M} {f : Nat → Nat} {s : Nat → Int32} {q : Nat → Int64}
end I89
section R89
variable {sa sv d N n B o : Nat} {X : TX} {m m' : am_M} {s : Nat → Int32} {q : Nat → Int64}
theorem ern_10 (hC : WC s) (hZ : WZ s q) : ern_ q (cN s 0) = ern_ q 10 := by
  have n10 := isN_lt (wc_np hC) (by decide)
  have : ∀ k, cN s 0 + k ≤ 10 → ern_ q (cN s 0 + k) = ern_ q (cN s 0) := by
    intro k
    induction k with
    | zero => intro _; rfl
    | succ k ih =>
      intro hk
      have e : ern_ q (cN s 0 + (k + 1)) = ern_ q (cN s 0 + k) + q (10 + 4 * (cN s 0 + k) + 0) := rfl
      rw [e, ih (by omega), wz_t hZ (cN s 0 + k) 0 (by omega) (by omega) (by omega)]
      exact Int64.add_zero _
  rw [← this (10 - cN s 0) (by omega), show cN s 0 + (10 - cN s 0) = 10 by omega]
end R89
