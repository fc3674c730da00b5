/-! the reference goes on along the tokens -/
theorem l_sh5 {x y : Nat} (hx : x < 2 ^ 40) (hy : y < 32) : Int64.ofNat x <<< ((nI 5).toInt64 &&& 63) ||| Int64.ofNat y = Int64.ofNat (x * 32 + y) := by
  apply Int64.toBitVec_inj.mp
  have e5 : ((((nI 5).toInt64 &&& 63).toBitVec).smod 64) = 5#64 := by decide
  show (BitVec.ofNat 64 x <<< ((((nI 5).toInt64 &&& 63).toBitVec).smod 64)) ||| BitVec.ofNat 64 y = BitVec.ofNat 64 (x * 32 + y)
  rw [e5]
  apply BitVec.eq_of_toNat_eq
  rw [BitVec.toNat_or, BitVec.toNat_ofNat, BitVec.toNat_ofNat]
  show ((BitVec.ofNat 64 x <<< 5).toNat) ||| y % 2 ^ 64 = _
  rw [BitVec.toNat_shiftLeft, BitVec.toNat_ofNat, Nat.mod_eq_of_lt (show x < 2 ^ 64 by omega), Nat.mod_eq_of_lt (show y < 2 ^ 64 by omega), Nat.shiftLeft_eq, Nat.mod_eq_of_lt (show x * 2 ^ 5 < 2 ^ 64 by omega), Nat.mod_eq_of_lt (show x * 32 + y < 2 ^ 64 by omega)]
  have := Nat.shiftLeft_add_eq_or_of_lt (show y < 2 ^ 5 by omega) x
  rw [Nat.shiftLeft_eq] at this
  rw [← this]
/-- the kind of a word -/
theorem qi_inj : ∀ i, i < 21 → ∀ j, j < 21 → qi_ i = qi_ j → i = j := by decide +kernel
theorem wki_q {k : Nat} (hk : k < 21) (v : Int64) : wki v = 7 + k ↔ v = qi_ k := by
  unfold wki
  rcases fst_spec (fun k => decide (qi_ k = v)) 21 0 with ⟨h1, h2⟩ | ⟨h1, h2, h3, h4⟩
  · rw [h1, if_neg (by omega)]
    refine ⟨fun z => by omega, fun z => ?_⟩
    have := h2 k (by omega) (by omega)
    rw [z, decide_eq_true rfl] at this
    cases this
  · rw [if_pos (by omega)]
    have h5 := of_decide_eq_true h3
    constructor
    · intro z
      rw [← h5]; congr 1; omega
    · intro z
      have := qi_inj _ (by omega) k hk (h5.trans z)
      omega
theorem wki_2 (v : Int64) : wki v = 2 ∨ (7 ≤ wki v ∧ wki v < 28) := by
  unfold wki
  split
  · right; omega
  · left; rfl
/-- the reference's sort of a token -/
def srt (k : Nat) : Nat := if k = 0 then 0 else if k = 1 then 4 else if k = 2 then 1 else if k = 3 then 2 else if k < 7 then 3 else 1
def Nv (b : Nat → Nat) (n i : Nat) : Nat := nvn b (St b n i) (nnd b n (St b n i) - St b n i)
theorem XF.hi {N a k : Nat} (h : N + 243 < a) : XF N a k := ⟨by omega, Or.inl (by omega)⟩
section D80
variable {sa sv d N : Nat} {m : am_M} {b : Nat → Nat} {n i : Nat}
theorem wvn_lt (hb : ∀ k, b k < 128) (a : Nat) : ∀ k, wvn b a k < 32 ^ k := by
  intro k
  induction k with
  | zero => exact Nat.one_pos
  | succ k ih =>
    have := hb (a + k)
    rw [wvn, Nat.pow_succ]
    omega
end D80
