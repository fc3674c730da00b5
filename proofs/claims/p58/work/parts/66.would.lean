/-! what an income would bring: the reference -/
theorem amt_t {x : Int32} : amt_ x = true ↔ ∃ k, 1 ≤ k ∧ k ≤ 9999999 ∧ x = nI k := by
  unfold amt_
  rw [decide_eq_true_iff]
  constructor
  · intro h
    refine ⟨x.toInt.toNat, by omega, by omega, ?_⟩
    apply Int32.toInt_inj.mp
    rw [nI_toInt (by omega)]
    omega
  · rintro ⟨k, h1, h2, rfl⟩
    rw [nI_toInt (by omega)]
    omega
theorem yamt (p : Int32) : decide ((1 : Int64) ≤ p.toInt64 ∧ p.toInt64 ≤ (9999999 : Int64)) = amt_ p := by
  unfold amt_
  refine decide_eq_decide.mpr ?_
  rw [Int64.le_iff_toInt_le, Int64.le_iff_toInt_le, Int32.toInt_toInt64, show (1 : Int64).toInt = 1 by decide, show (9999999 : Int64).toInt = 9999999 by decide]
/-- the lines of an income -/
def dL_ (s : Nat → Int32) (w a : Nat) : List Ln := (dvd_ s (cN s 4) w a).2
section R66
variable {sa sv d N o B : Nat} {m : am_M} {s : Nat → Int32} {q : Nat → Int64}
end R66
