/-! what a report tells: names and numbers -/
theorem bv_int {n : Nat} (h : n < 2 ^ 63) : (BitVec.ofNat 64 n).toInt = (n : Int) := lg_ofNat_toInt h
theorem l_shr {n k : Nat} {sh : Int64} (hn : n < 2 ^ 63) (hk : k < 64) (e : sh.toBitVec.smod 64 = BitVec.ofNat 64 k) : Int64.ofNat n >>> sh = Int64.ofNat (n / 2 ^ k) := by
  apply Int64.toBitVec_inj.mp
  show (BitVec.ofNat 64 n).sshiftRight' (sh.toBitVec.smod 64) = BitVec.ofNat 64 (n / 2 ^ k)
  rw [e]
  show (BitVec.ofNat 64 n).sshiftRight (BitVec.ofNat 64 k).toNat = _
  rw [BitVec.toNat_ofNat, Nat.mod_eq_of_lt (show k < 2 ^ 64 by omega)]
  apply BitVec.eq_of_toInt_eq
  rw [BitVec.toInt_sshiftRight, Int.shiftRight_eq_div_pow, bv_int hn, bv_int (Nat.lt_of_le_of_lt (Nat.div_le_self _ _) hn)]
  norm_cast
theorem l_and31 {n : Nat} (hn : n < 2 ^ 63) : Int64.ofNat n &&& 31 = Int64.ofNat (n % 32) := by
  apply Int64.toBitVec_inj.mp
  apply BitVec.eq_of_toNat_eq
  have h1 : (Int64.ofNat n &&& 31).toBitVec.toNat = (BitVec.ofNat 64 n).toNat &&& 31 := rfl
  have h2 : (Int64.ofNat (n % 32)).toBitVec.toNat = (BitVec.ofNat 64 (n % 32)).toNat := rfl
  rw [h1, h2, BitVec.toNat_ofNat, BitVec.toNat_ofNat, Nat.mod_eq_of_lt (show n < 2 ^ 64 by omega), Nat.mod_eq_of_lt (show n % 32 < 2 ^ 64 by omega)]
  exact Nat.and_two_pow_sub_one_eq_mod _ 5
theorem l_i32 {a : Nat} (h : a < 2 ^ 31) : (Int64.ofNat a).toInt32 = nI a := by
  apply Int32.toInt_inj.mp
  have : (Int64.ofNat a).toInt = (a : Int) := lg_ofNat_toInt (by omega)
  rw [Int64.toInt_toInt32, nI_toInt h, this, Int.bmod_def]
  split <;> omega
theorem l_div {n k : Nat} (hn : n < 2 ^ 63) (hk : k < 2 ^ 63) : Int64.ofNat n / Int64.ofNat k = Int64.ofNat (n / k) := (Int64.ofNat_div hn hk).symm
theorem l_dig {n : Nat} (hn : n < 2 ^ 63) : ((48 : Int64) + (Int64.ofNat n - Int64.ofNat n / (10 : Int64) * (10 : Int64))).toInt32 = nI (48 + n % 10) := by
  rw [show (10 : Int64) = Int64.ofNat 10 from rfl, show (48 : Int64) = Int64.ofNat 48 from rfl, l_div hn (by omega), ← Int64.ofNat_mul, ← Int64.ofNat_sub _ _ (by omega), ← Int64.ofNat_add, l_i32 (by omega)]
  congr 1
  omega
theorem l_dig2 {n : Nat} (hn : n < 2 ^ 63) : nI 48 + (Int64.ofNat n - Int64.ofNat n / (10 : Int64) * (10 : Int64)).toInt32 = nI (48 + n % 10) := by
  rw [show (10 : Int64) = Int64.ofNat 10 from rfl, l_div hn (by omega), ← Int64.ofNat_mul, ← Int64.ofNat_sub _ _ (by omega), l_i32 (by omega), nI_add]
  congr 1
  omega
theorem l_leI {a b : Nat} (ha : a < 2 ^ 63) (hb : b < 2 ^ 63) : (Int64.ofNat a ≤ Int64.ofNat b) = (a ≤ b) := propext (by
  have h1 : (Int64.ofNat a).toInt = (a : Int) := lg_ofNat_toInt ha
  have h2 : (Int64.ofNat b).toInt = (b : Int) := lg_ofNat_toInt hb
  rw [Int64.le_iff_toInt_le, h1, h2]
  omega)
theorem i8_lo {c : Nat} (h : c < 128) : (nI c).toInt8.toInt32.toInt8.toInt32 = nI c := by
  have := sb_lo c h
  unfold sb at this
  rw [Int8.toInt8_toInt32, this]
/-- the digits of a number, the letters of a name -/
def emN (n : Nat) : Nat → List Nat
  | 0 => []
  | j + 1 => (48 + n / 10 ^ j % 10) :: emN n j
def ndg (n : Nat) : Nat := fst_ (fun j => decide (n / 10 ^ (j + 1) = 0)) 18 0 + 1
def emL (n : Nat) : Nat → List Nat
  | 0 => []
  | j + 1 => if n / 32 ^ j % 32 = 0 then emL n j else (96 + n / 32 ^ j % 32) :: emL n j
def numL (n : Nat) : List Nat := emN n (ndg n)
def namL (x : Int64) : List Nat := emL x.toNatClampNeg 8
theorem emN_len (n : Nat) : ∀ j, (emN n j).length = j
  | 0 => rfl
  | j + 1 => by rw [emN, List.length_cons, emN_len n j]
theorem emL_len (n : Nat) : ∀ j, (emL n j).length ≤ j
  | 0 => Nat.le_refl _
  | j + 1 => by
    have := emL_len n j
    unfold emL
    split
    · omega
    · rw [List.length_cons]; omega
theorem ndg_le (n : Nat) : ndg n ≤ 19 := by
  unfold ndg
  have := fst_le (P := fun j => decide (n / 10 ^ (j + 1) = 0)) 18 0
  omega
theorem ndg_s (n : Nat) (hn : n < 10 ^ 19) : n / 10 ^ ndg n = 0 ∧ ∀ j, j + 1 < ndg n → ¬ n / 10 ^ (j + 1) = 0 := by
  unfold ndg
  rcases fst_spec (fun j => decide (n / 10 ^ (j + 1) = 0)) 18 0 with ⟨h1, h2⟩ | ⟨h1, h2, h3, h4⟩
  · rw [h1]
    refine ⟨Nat.div_eq_of_lt (by omega), fun j hj => ?_⟩
    have := h2 j (by omega) (by omega)
    exact of_decide_eq_false this
  · refine ⟨of_decide_eq_true h3, fun j hj => ?_⟩
    have := h4 j (by omega) (by omega)
    exact of_decide_eq_false this
theorem ndg_7 {n : Nat} (h : n < 10 ^ 8) : ndg n ≤ 8 := by
  rcases Nat.lt_or_ge 8 (ndg n) with z | z
  · have := (ndg_s n (by omega)).2 7 (by omega)
    exact absurd (Nat.div_eq_of_lt h) this
  · exact z
theorem ltr_lt : ∀ l : List Nat, (∀ c ∈ l, 1 ≤ c ∧ c ≤ 26) → l.length ≤ 8 → ltr_ l < 32 ^ l.length := by
  intro l
  induction l with
  | nil => intro _ _; decide
  | cons c l ih =>
    intro h hl
    have h1 := ih (fun c hc => h c (List.mem_cons_of_mem _ hc)) (by rw [List.length_cons] at hl; omega)
    have h2 := h c (List.mem_cons_self ..)
    rw [List.length_cons, Nat.pow_succ]
    unfold ltr_
    omega
theorem ltr_dv : ∀ (l : List Nat) (j : Nat), (∀ c ∈ l, 1 ≤ c ∧ c ≤ 26) → (0 < ltr_ l / 32 ^ j) = (0 < ltr_ l / 32 ^ j % 32) := by
  intro l
  induction l with
  | nil => intro j _; unfold ltr_; rw [Nat.zero_div]
  | cons c l ih =>
    intro j h
    have h2 := h c (List.mem_cons_self ..)
    unfold ltr_
    cases j with
    | zero => rw [Nat.pow_zero, Nat.div_one]; exact propext (by omega)
    | succ j =>
      have e : (ltr_ l * 32 + c) / 32 ^ (j + 1) = ltr_ l / 32 ^ j := by
        rw [Nat.pow_succ, Nat.mul_comm (32 ^ j) 32, ← Nat.div_div_eq_div_mul]
        congr 1
        omega
      rw [e]
      exact ih j (fun c hc => h c (List.mem_cons_of_mem _ hc))
/-- a good name as a number -/
theorem gdn_n {x : Int64} (h : gdn_ x) : x = Int64.ofNat x.toNatClampNeg ∧ x.toNatClampNeg < 2 ^ 40 ∧ ∀ j, (0 < x.toNatClampNeg / 32 ^ j) = (0 < x.toNatClampNeg / 32 ^ j % 32) := by
  obtain ⟨l, h1, h2, h3, rfl⟩ := h
  have b := ltr_lt l h3 h2
  have b2 : ltr_ l < 2 ^ 40 := Nat.lt_of_lt_of_le b (by
    have : 32 ^ l.length ≤ 32 ^ 8 := Nat.pow_le_pow_right (by decide) h2
    omega)
  have e : (Int64.ofNat (ltr_ l)).toNatClampNeg = ltr_ l := by
    have : (Int64.ofNat (ltr_ l)).toInt = (ltr_ l : Int) := lg_ofNat_toInt (by omega)
    show (Int64.ofNat (ltr_ l)).toInt.toNat = _
    rw [this]
    rfl
  rw [e]
  exact ⟨rfl, b2, fun j => ltr_dv l j h3⟩
