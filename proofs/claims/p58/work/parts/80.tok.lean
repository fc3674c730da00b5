/-! the tokens of a text -/
def tL (c : Nat) : Bool := decide (97 ≤ c ∧ c ≤ 122)
def tD (c : Nat) : Bool := decide (48 ≤ c ∧ c ≤ 57)
def tS (c : Nat) : Bool := decide (c = 32 ∨ c = 10)
/-- the next byte that isn't a space; the end of a word, of a number -/
def skp (b : Nat → Nat) (n p : Nat) : Nat := fst_ (fun i => !tS (b i)) (n - p) p
def wnd (b : Nat → Nat) (n p : Nat) : Nat := fst_ (fun i => !tL (b i)) (n - p) p
def nnd (b : Nat → Nat) (n p : Nat) : Nat := fst_ (fun i => !tD (b i)) (n - p) p
def wvn (b : Nat → Nat) (a : Nat) : Nat → Nat
  | 0 => 0
  | k + 1 => wvn b a k * 32 + (b (a + k) - 96)
def nvn (b : Nat → Nat) (a : Nat) : Nat → Nat
  | 0 => 0
  | k + 1 => nvn b a k * 10 + (b (a + k) - 48)
def qw_ : List Nat := [16835749, 12748404, 769611, 3659954, 486, 639025541, 302, 20459828, 215533, 54109422, 655, 22499628, 1231075429, 591493, 494, 89, 316784037, 525939, 609949268, 3554917, 609752116]
def qi_ (k : Nat) : Int64 := Int64.ofNat (qw_.getD k 0)
/-- the kind of a word -/
def wki (v : Int64) : Nat := if fst_ (fun k => decide (qi_ k = v)) 21 0 < 21 then 7 + fst_ (fun k => decide (qi_ k = v)) 21 0 else 2
def tE (b : Nat → Nat) (n a : Nat) : Nat := if tL (b a) = true then wnd b n a else if tD (b a) = true then nnd b n a else a + 1
def tK (b : Nat → Nat) (n a : Nat) : Nat := if tL (b a) = true then (if wnd b n a - a ≤ 8 then wki (Int64.ofNat (wvn b a (wnd b n a - a))) else 1) else if tD (b a) = true then (if nnd b n a - a ≤ 6 then 3 else 1) else if b a = 59 then 4 else if b a = 40 then 5 else if b a = 41 then 6 else 1
def tV (b : Nat → Nat) (n a : Nat) : Int64 := if tL (b a) = true then Int64.ofNat (wvn b a (wnd b n a - a)) else if tD (b a) = true then Int64.ofNat (nvn b a (nnd b n a - a)) else 0
/-- where the search for token i begins; its start, its kind, its value -/
def tp (b : Nat → Nat) (n : Nat) : Nat → Nat
  | 0 => 0
  | i + 1 => if skp b n (tp b n i) < n then tE b n (skp b n (tp b n i)) else n
def St (b : Nat → Nat) (n i : Nat) : Nat := skp b n (tp b n i)
def Kd (b : Nat → Nat) (n i : Nat) : Nat := if St b n i < n then tK b n (St b n i) else 0
def Vl (b : Nat → Nat) (n i : Nat) : Int64 := if St b n i < n then tV b n (St b n i) else 0
/-! runs of bytes -/
section T80
variable {P : Nat → Bool} {b : Nat → Nat} {n p : Nat}
theorem fst_ge : ∀ k i, i ≤ fst_ P k i := fun k i => by
  rcases fst_spec P k i with ⟨h, -⟩ | ⟨h, -⟩ <;> omega
theorem fst_le : ∀ k i, fst_ P k i ≤ i + k := fun k i => by
  rcases fst_spec P k i with ⟨h, -⟩ | ⟨-, h, -⟩ <;> omega
/-- a run of bytes that pass -/
def rnd (f : Nat → Bool) (b : Nat → Nat) (n p : Nat) : Nat := fst_ (fun i => !f (b i)) (n - p) p
theorem rnd_t {f : Nat → Bool} (h : f (b p) = true) (hp : p < n) : rnd f b n p = rnd f b n (p + 1) := by
  unfold rnd
  rw [show n - p = (n - (p + 1)) + 1 by omega, fst_n (by rw [h]; rfl)]
theorem rnd_f {f : Nat → Bool} (h : f (b p) = false) : rnd f b n p = p := by
  unfold rnd
  by_cases hp : p < n
  · rw [show n - p = (n - (p + 1)) + 1 by omega, fst_s (by rw [h]; rfl)]
  · rw [show n - p = 0 by omega]; rfl
theorem rnd_e {f : Nat → Bool} (h : n ≤ p) : rnd f b n p = p := by
  unfold rnd
  rw [show n - p = 0 by omega]; rfl
theorem rnd_ge {f : Nat → Bool} : p ≤ rnd f b n p := fst_ge _ _
theorem rnd_le {f : Nat → Bool} (h : p ≤ n) : rnd f b n p ≤ n := by
  have := fst_le (P := fun i => !f (b i)) (n - p) p
  unfold rnd
  omega
theorem skp_r : skp b n p = rnd tS b n p := rfl
theorem wnd_r : wnd b n p = rnd tL b n p := rfl
theorem nnd_r : nnd b n p = rnd tD b n p := rfl
theorem skp_le (h : p ≤ n) : skp b n p ≤ n := rnd_le h
theorem tE_lt {a : Nat} (ha : a < n) : a < tE b n a ∧ tE b n a ≤ n := by
  unfold tE
  split
  · rename_i h
    rw [wnd_r, rnd_t h ha]
    have h1 := rnd_ge (f := tL) (b := b) (n := n) (p := a + 1)
    have h2 := rnd_le (f := tL) (b := b) (n := n) (p := a + 1) (by omega)
    omega
  · split
    · rename_i h
      rw [nnd_r, rnd_t h ha]
      have h1 := rnd_ge (f := tD) (b := b) (n := n) (p := a + 1)
      have h2 := rnd_le (f := tD) (b := b) (n := n) (p := a + 1) (by omega)
      omega
    · omega
theorem tp_le : ∀ i, tp b n i ≤ n := by
  intro i
  induction i with
  | zero => exact Nat.zero_le _
  | succ i ih =>
    rw [tp]
    split
    · rename_i h
      exact (tE_lt h).2
    · exact Nat.le_refl _
theorem St_le (i : Nat) : St b n i ≤ n := skp_le (tp_le i)
theorem tp_St (i : Nat) : tp b n i ≤ St b n i := rnd_ge
theorem tp_s {i : Nat} (h : St b n i < n) : tp b n (i + 1) = tE b n (St b n i) := if_pos h
theorem tp_up {i : Nat} (h : St b n i < n) : St b n i < tp b n (i + 1) := by
  rw [tp_s h]; exact (tE_lt h).1
/-- one of the first n + 1 tokens is the end -/
theorem tok_end (b : Nat → Nat) (n : Nat) : ∃ T, T ≤ n ∧ St b n T = n ∧ ∀ i, i < T → St b n i < n := by
  have key : ∀ k, k ≤ n + 1 → (∃ T, T < k ∧ St b n T = n ∧ ∀ i, i < T → St b n i < n) ∨ (k ≤ tp b n k ∧ ∀ i, i < k → St b n i < n) := by
    intro k
    induction k with
    | zero => exact fun _ => Or.inr ⟨Nat.zero_le _, fun i hi => absurd hi (by omega)⟩
    | succ k ih =>
      intro hk
      rcases ih (by omega) with ⟨T, h1, h2, h3⟩ | ⟨h1, h2⟩
      · exact Or.inl ⟨T, by omega, h2, h3⟩
      · by_cases e : St b n k < n
        · have h3 := tp_up e
          have h4 := tp_St (b := b) (n := n) k
          refine Or.inr ⟨by omega, fun i hi => ?_⟩
          by_cases e2 : i = k
          · rw [e2]; exact e
          · exact h2 i (by omega)
        · have := St_le (b := b) (n := n) k
          exact Or.inl ⟨k, by omega, by omega, h2⟩
  rcases key (n + 1) (Nat.le_refl _) with ⟨T, h1, h2, h3⟩ | ⟨h1, -⟩
  · exact ⟨T, by omega, h2, h3⟩
  · have := tp_le (b := b) (n := n) (n + 1)
    omega
end T80
/-! bytes, as the class has them -/
def sb (c : Nat) : Int32 := (nI c).toInt8.toInt32
theorem sb_lo : ∀ c, c < 128 → sb c = nI c := by decide +kernel
theorem sb_hi : ∀ c, c < 256 → 128 ≤ c → sb c < nI 10 := by decide +kernel
theorem sb_eq {c k : Nat} (hc : c < 256) (hk : 10 ≤ k) (hk2 : k < 128) : (sb c = nI k) = (c = k) := propext (by
  by_cases h : c < 128
  · rw [sb_lo c h, nI_eq (by omega) (by omega)]
  · have h1 := sb_hi c hc (by omega)
    constructor
    · intro e
      rw [e, nI_ltI (by omega) (by omega)] at h1
      omega
    · intro e; omega)
theorem sb_lt {c k : Nat} (hc : c < 256) (hk : 10 ≤ k) (hk2 : k < 128) : (sb c < nI k) = (c < k ∨ 128 ≤ c) := propext (by
  by_cases h : c < 128
  · rw [sb_lo c h, nI_ltI (by omega) (by omega)]; omega
  · have h1 := sb_hi c hc (by omega)
    refine ⟨fun _ => by omega, fun _ => ?_⟩
    rw [Int32.lt_iff_toInt_lt, nI_toInt (by omega)] at h1 ⊢
    omega)
theorem sb_gt {c k : Nat} (hc : c < 256) (hk : 10 ≤ k) (hk2 : k < 128) : (nI k < sb c) = (k < c ∧ c < 128) := propext (by
  by_cases h : c < 128
  · rw [sb_lo c h, nI_ltI (by omega) (by omega)]; omega
  · have h1 := sb_hi c hc (by omega)
    refine ⟨fun h2 => ?_, fun _ => by omega⟩
    rw [Int32.lt_iff_toInt_lt, nI_toInt (by omega)] at h1 h2
    omega)
section C80
variable {sa sv d N : Nat} {m : am_M}
theorem x140 (c : Nat) (hc : c < 256) : am_ca sa sv (d + 1) 140 [.int (sb c)] m = some (.inl (some (.int (tr_ (tL c)))), m) := by
  rw [c140, b140_0]
  simp (disch := omega) only [gq_true, gb_true, gb_false, true_and, and_true, eq_self, not_false_eq_true, not_true_eq_false, true_or, or_true, false_or, or_false, false_and, and_false, c0_v, ci_v, cl_v, cf_v, pk_mul, nI_add, nI_clamp, nI_lt0, nI_0le, nI_eq0, nI_lt0r, nI_ltE, nI_leE, nI_eqE, nI_m1, in_t, ba0, ba1, Nat.one_ne_zero, Nat.reduceEqDiff, Nat.reduceLeDiff, Nat.add_eq_zero_iff, sb_lt hc (show 10 ≤ 97 by decide) (by decide), sb_gt hc (show 10 ≤ 122 by decide) (by decide)]
  unfold tL
  by_cases h1 : c < 97 ∨ 128 ≤ c
  · rw [gb_pos h1, decide_eq_false (by omega)]; rfl
  · rw [gb_neg h1]
    by_cases h2 : 122 < c ∧ c < 128
    · rw [gb_pos h2, decide_eq_false (by omega)]; rfl
    · rw [gb_neg h2, decide_eq_true (by omega)]; rfl
theorem x141 (c : Nat) (hc : c < 256) : am_ca sa sv (d + 1) 141 [.int (sb c)] m = some (.inl (some (.int (tr_ (tD c)))), m) := by
  rw [c141, b141_0]
  simp (disch := omega) only [gq_true, gb_true, gb_false, true_and, and_true, eq_self, not_false_eq_true, not_true_eq_false, true_or, or_true, false_or, or_false, false_and, and_false, c0_v, ci_v, cl_v, cf_v, pk_mul, nI_add, nI_clamp, nI_lt0, nI_0le, nI_eq0, nI_lt0r, nI_ltE, nI_leE, nI_eqE, nI_m1, in_t, ba0, ba1, Nat.one_ne_zero, Nat.reduceEqDiff, Nat.reduceLeDiff, Nat.add_eq_zero_iff, sb_lt hc (show 10 ≤ 48 by decide) (by decide), sb_gt hc (show 10 ≤ 57 by decide) (by decide)]
  unfold tD
  by_cases h1 : c < 48 ∨ 128 ≤ c
  · rw [gb_pos h1, decide_eq_false (by omega)]; rfl
  · rw [gb_neg h1]
    by_cases h2 : 57 < c ∧ c < 128
    · rw [gb_pos h2, decide_eq_false (by omega)]; rfl
    · rw [gb_neg h2, decide_eq_true (by omega)]; rfl
theorem x133 (x c : Nat) (hc : tL c = true) : am_ca sa sv (d + 1) 133 [.long (Int64.ofNat x), .int (sb c)] m = some (.inl (some (.long (Int64.ofNat (x * 32 + (c - 96))))), m) := by
  have h := of_decide_eq_true hc
  have e : ∀ c, c < 123 → 97 ≤ c → (nI c - nI 97 + nI 1).toInt64 = Int64.ofNat (c - 96) := by decide +kernel
  rw [c133, b133_0, sb_lo c (by omega), e c (by omega) (by omega), Int64.ofNat_add, Int64.ofNat_mul]
  rfl
/-- the quoted words -/
def QT (m : am_M) (N : Nat) : Prop := ∀ k, k < 21 → gl_ m (N + 3) k = qi_ k
theorem x138 (hX : XS m N) (hQ : QT m N) (v : Int64) : am_ca sa sv (d + 1) 138 [.ref (N + 2), .long v] m = some (.inl (some (.int (nI (wki v)))), m) := by
  have step : ∀ j i, i + j = 21 → r138 sa sv d 2 [some (.ref (N + 2)), some (.long v), none, some (.int (nI i))] [] m = some (.inl (some (.int (nI (if fst_ (fun k => decide (qi_ k = v)) j i < 21 then 7 + fst_ (fun k => decide (qi_ k = v)) j i else 2)))), m) := by
    intro j
    induction j with
    | zero =>
      intro i hi
      rw [b138_2, gb_pos (by rw [nI_leE (by omega) (by omega)]; omega), fst_, if_neg (by omega)]
    | succ j ih =>
      intro i hi
      rw [b138_2, gb_neg (by rw [nI_leE (by omega) (by omega)]; omega)]
      simp (disch := omega) only [gq_true, gb_true, gb_false, true_and, and_true, eq_self, not_false_eq_true, not_true_eq_false, true_or, or_true, false_or, or_false, false_and, and_false, c0_v, ci_v, cl_v, cf_v, pk_mul, nI_add, nI_clamp, nI_lt0, nI_0le, nI_eq0, nI_lt0r, nI_ltE, nI_leE, nI_eqE, nI_m1, in_t, ba0, ba1, Nat.one_ne_zero, Nat.reduceEqDiff, Nat.reduceLeDiff, Nat.add_eq_zero_iff, xk2 hX, xr2_0 hX, xk3 hX, hQ i (by omega), lgc_eq]
      by_cases e : qi_ i = v
      · rw [gb_pos e, fst_s (decide_eq_true e), if_pos (by omega)]
      · rw [gb_neg e, fst_n (decide_eq_false e)]
        exact ih (i + 1) (by omega)
  rw [c138, b138_0]
  exact step 21 0 (by omega)
/-- one more token -/
def addT (m : am_M) (N j k a : Nat) (v : Int64) : am_M := si_ (sl_ (si_ (si_ m (N + 4) j (nI k)) (N + 5) j (nI a)) (N + 6) j v) (N + 2) 4 (nI (j + 1))
theorem x139 (hX : XS m N) (j k a : Nat) (v : Int64) (hj : j < 901) (h4 : gi_ m (N + 2) 4 = nI j) : am_ca sa sv (d + 1) 139 [.ref (N + 2), .int (nI k), .int (nI a), .long v] m = some (.inl none, addT m N j k a v) := by
  have e1 : gi_ (si_ m (N + 4) j (nI k)) (N + 2) 4 = nI j := by rw [gi_si, if_neg (by omega)]; exact h4
  have e2 : gi_ (si_ (si_ m (N + 4) j (nI k)) (N + 5) j (nI a)) (N + 2) 4 = nI j := by rw [gi_si, if_neg (by omega)]; exact e1
  rw [c139, b139_0]
  simp (disch := omega) only [gq_true, gb_true, gb_false, true_and, and_true, eq_self, not_false_eq_true, not_true_eq_false, true_or, or_true, false_or, or_false, false_and, and_false, c0_v, ci_v, cl_v, cf_v, pk_mul, nI_add, nI_clamp, nI_lt0, nI_0le, nI_eq0, nI_lt0r, nI_ltE, nI_leE, nI_eqE, nI_m1, in_t, ba0, ba1, Nat.one_ne_zero, Nat.reduceEqDiff, Nat.reduceLeDiff, Nat.add_eq_zero_iff, xk2 hX, xr2_1 hX, xk4 hX, h4, xr2_2 hX, xk5 hX, e1, xr2_3 hX, xk6 hX, e2, Nat.reduceEqDiff, Nat.reduceLeDiff]
  rw [gb_neg (by omega)]
  rfl
end C80
