/-! the amount that recoups an advance -/
def am9_ (x : Int32) : Bool := decide (1 ≤ x.toInt ∧ x.toInt ≤ 9999)
theorem am9_t {x : Int32} : am9_ x = true ↔ ∃ k, 1 ≤ k ∧ k ≤ 9999 ∧ x = nI k := by
  unfold am9_
  rw [decide_eq_true_iff]
  constructor
  · intro h
    refine ⟨x.toInt.toNat, by omega, by omega, ?_⟩
    apply Int32.toInt_inj.mp
    rw [nI_toInt (by omega)]
    omega
  · rintro ⟨k, h1, h2, rfl⟩
    rw [nI_toInt (by omega)]
    omega
theorem yam9 (p : Int32) : decide ((1 : Int64) ≤ p.toInt64 ∧ p.toInt64 ≤ (9999 : Int64)) = am9_ p := by
  unfold am9_
  refine decide_eq_decide.mpr ?_
  rw [Int64.le_iff_toInt_le, Int64.le_iff_toInt_le, Int32.toInt_toInt64, show (1 : Int64).toInt = 1 by decide, show (9999 : Int64).toInt = 9999 by decide]
/-- the first of the n amounts from x on that recoups, or -1 -/
def rcv_ (s : Nat → Int32) (w a n x : Nat) : Int32 := if fst_ (rc_ s w a) n x = x + n then -1 else nI (fst_ (rc_ s w a) n x)
theorem rcv_0 (s : Nat → Int32) (w a x : Nat) : rcv_ s w a 0 x = -1 := if_pos rfl
theorem rcv_t {s : Nat → Int32} {w a n x : Nat} (h : rc_ s w a x = true) : rcv_ s w a (n + 1) x = nI x := by
  unfold rcv_
  rw [fst_s h, if_neg (by omega)]
theorem rcv_f {s : Nat → Int32} {w a n x : Nat} (h : rc_ s w a x = false) : rcv_ s w a (n + 1) x = rcv_ s w a n (x + 1) := by
  unfold rcv_
  rw [fst_n h, show x + (n + 1) = x + 1 + n by omega]
theorem rcv_k {s : Nat → Int32} {w a n k : Nat} (hk : k ≤ n) (h : ∀ x, 1 ≤ x → x < 1 + k → rc_ s w a x = false) : rcv_ s w a n 1 = rcv_ s w a (n - k) (1 + k) := by
  unfold rcv_
  rw [fst_skip k n 1 hk h, show 1 + k + (n - k) = 1 + n by omega]
section R69
variable {sa sv d N o B : Nat} {m : am_M} {s : Nat → Int32} {q : Nat → Int64}
end R69
