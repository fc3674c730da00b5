/-! numbers: an argument within a count -/
def inR (p : Int32) (n : Nat) : Bool := decide (0 ≤ p.toInt ∧ p.toInt < (n : Int))
def tr_ (b : Bool) : Int32 := bif b then nI 1 else nI 0
theorem inR_t {p : Int32} {n : Nat} (hn : n ≤ 2 ^ 31) : inR p n = true ↔ ∃ k, k < n ∧ p = nI k := by
  unfold inR
  rw [decide_eq_true_iff]
  constructor
  · intro h
    refine ⟨p.toInt.toNat, by omega, ?_⟩
    apply Int32.toInt_inj.mp
    rw [nI_toInt (by omega)]
    omega
  · rintro ⟨k, h1, rfl⟩
    rw [nI_toInt (by omega)]
    omega
theorem inR_nI {k n : Nat} (hk : k < 2 ^ 31) : inR (nI k) n = decide (k < n) := by
  unfold inR
  rw [nI_toInt hk]
  exact decide_eq_decide.mpr (by omega)
theorem z32 : (0 : Int32).toInt = 0 := by decide
theorem inR_a {p : Int32} {n : Nat} (h : p < 0) : inR p n = false := by
  unfold inR
  rw [Int32.lt_iff_toInt_lt, z32] at h
  exact decide_eq_false (by omega)
theorem inR_b {p : Int32} {n : Nat} (hn : n < 2 ^ 31) (h : nI n ≤ p) : inR p n = false := by
  unfold inR
  rw [Int32.le_iff_toInt_le, nI_toInt hn] at h
  exact decide_eq_false (by omega)
theorem inR_c {p : Int32} {n : Nat} (hn : n < 2 ^ 31) (h1 : ¬ p < 0) (h2 : ¬ nI n ≤ p) : inR p n = true := by
  unfold inR
  rw [Int32.lt_iff_toInt_lt, z32] at h1
  rw [Int32.le_iff_toInt_le, nI_toInt hn] at h2
  exact decide_eq_true (by omega)
/-- long comparisons of ints -/
theorem l_le (a b : Int32) : (a.toInt64 ≤ b.toInt64) = (a.toInt ≤ b.toInt) := propext (by rw [Int64.le_iff_toInt_le, Int32.toInt_toInt64, Int32.toInt_toInt64])
theorem tr_ba (b : Bool) : (tr_ b &&& 1 = tr_ b) = True := by cases b <;> exact eq_true (by decide)
theorem tr_0 (b : Bool) : (tr_ b = 0) = (b = false) := by cases b <;> simp [tr_, nI_0] <;> decide
