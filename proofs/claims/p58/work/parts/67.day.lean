/-! what an income would bring on a day -/
/-- a day from today on -/
def dy_ (s : Nat → Int32) (x : Int32) : Bool := decide ((cN s 4 : Int) ≤ x.toInt ∧ x.toInt ≤ 9999)
theorem dy_t {s : Nat → Int32} {x : Int32} : dy_ s x = true ↔ ∃ k, cN s 4 ≤ k ∧ k ≤ 9999 ∧ x = nI k := by
  unfold dy_
  rw [decide_eq_true_iff]
  constructor
  · intro h
    refine ⟨x.toInt.toNat, by omega, by omega, ?_⟩
    apply Int32.toInt_inj.mp
    rw [nI_toInt (by omega)]
    omega
  · rintro ⟨k, h1, h2, rfl⟩
    rw [nI_toInt (by omega)]
    omega
theorem ydy {s : Nat → Int32} (h : cN s 4 < 2 ^ 31) (p : Int32) : decide ((nI (cN s 4)).toInt64 ≤ p.toInt64 ∧ p.toInt64 ≤ (9999 : Int64)) = dy_ s p := by
  unfold dy_
  refine decide_eq_decide.mpr ?_
  rw [l_le, Int64.le_iff_toInt_le, Int32.toInt_toInt64, show (9999 : Int64).toInt = 9999 by decide, nI_toInt h]
section R67
variable {sa sv d N o B : Nat} {m : am_M} {s : Nat → Int32} {q : Nat → Int64}
end R67
