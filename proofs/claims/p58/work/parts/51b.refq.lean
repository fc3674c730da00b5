/-! the reference answers: the rest of its reading methods -/
theorem shr_pos {s : Nat → Int32} (hC : WC s) (hW : WW s) {w k : Nat} (hw : w < cN s 1) (hk : k < cN s (18 + 48 * w)) (p : Nat) : (shr_ s w k p ≤ 0) = ¬ ∃ j, j < cN s (23 + 48 * w + k) ∧ cN s (27 + 48 * w + 4 * k + j) = p := by
  unfold shr_ shj_
  rcases fst_spec (fun j => decide (cN s (27 + 48 * w + 4 * k + j) = p)) (cN s (23 + 48 * w + k)) 0 with ⟨a1, a2⟩ | ⟨a1, a2, a3, a4⟩
  · rw [if_neg (by omega)]
    refine propext ⟨fun _ => ?_, fun _ => by decide⟩
    rintro ⟨j, h1, h2⟩
    exact (of_decide_eq_false (a2 j (by omega) (by omega))) h2
  · rw [if_pos (by omega)]
    obtain ⟨h1, h2⟩ := ww_hc hW w k _ hw hk (show fst_ (fun j => decide (cN s (27 + 48 * w + 4 * k + j) = p)) (cN s (23 + 48 * w + k)) 0 < _ by omega)
    obtain ⟨e1, b1⟩ := h1.c (by decide)
    rw [e1]
    refine propext ⟨fun z => ?_, fun z => ?_⟩
    · rw [nI_le0 (by omega)] at z; omega
    · exact absurd ⟨_, by omega, of_decide_eq_true a3⟩ z
/-- a set by a test of each -/
def msk_ (P : Nat → Bool) : Nat → Nat
  | 0 => 0
  | n + 1 => msk_ P n ||| (bif P n then 1 else 0) * 2 ^ n
theorem msk_tb (P : Nat → Bool) (i : Nat) : ∀ n, (msk_ P n).testBit i = (decide (i < n) && P i) := by
  intro n
  induction n with
  | zero => rw [msk_, Nat.zero_testBit, decide_eq_false (by omega)]; rfl
  | succ n ih =>
    rw [msk_, Nat.testBit_or, ih]
    cases h : P n with
    | false =>
      rw [cond_false, Nat.zero_mul, Nat.zero_testBit, Bool.or_false]
      by_cases e : i = n
      · subst e; rw [h, Bool.and_false, Bool.and_false]
      · rw [show decide (i < n + 1) = decide (i < n) from decide_eq_decide.mpr (by omega)]
    | true =>
      rw [cond_true, Nat.one_mul, Nat.testBit_two_pow]
      by_cases e : i = n
      · subst e; rw [h, decide_eq_true rfl, decide_eq_true (by omega : i < i + 1), Bool.or_true]; rfl
      · rw [show decide (i < n + 1) = decide (i < n) from decide_eq_decide.mpr (by omega), decide_eq_false (show ¬ n = i from fun z => e z.symm), Bool.or_false]
theorem msk_lt (P : Nat → Bool) : ∀ n, msk_ P n < 2 ^ n := by
  intro n
  induction n with
  | zero => exact Nat.one_pos
  | succ n ih =>
    refine Nat.or_lt_two_pow (Nat.lt_of_lt_of_le ih (Nat.pow_le_pow_right (by decide) (Nat.le_succ n))) ?_
    have := Nat.pow_lt_pow_right (by decide : 1 < 2) (Nat.lt_succ_self n)
    cases P n
    · rw [cond_false, Nat.zero_mul]; exact Nat.two_pow_pos _
    · rw [cond_true, Nat.one_mul]; exact this
theorem own_eq {s : Nat → Int32} (hC : WC s) (hW : WW s) {w k : Nat} (hw : w < cN s 1) (hk : k < cN s (18 + 48 * w)) : msk_ (fun p => !decide (shr_ s w k p ≤ 0)) (cN s 0) = orF_ (fun j => cN s (27 + 48 * w + 4 * k + j)) (cN s (23 + 48 * w + k)) := by
  apply Nat.eq_of_testBit_eq
  intro i
  rw [msk_tb, orF_tb, ← decide_not, ← Bool.decide_and]
  refine decide_eq_decide.mpr ?_
  rw [shr_pos hC hW hw hk, Classical.not_not]
  refine ⟨fun z => z.2, fun z => ⟨?_, z⟩⟩
  obtain ⟨j, h1, h2⟩ := z
  have := isN_lt (ww_hp hW w k j hw hk h1) (by have := isN_lt (wc_np hC) (by decide); omega)
  omega
theorem off_eq {s : Nat → Int32} (hC : WC s) (hW : WW s) {w : Nat} : ∀ n, n ≤ cN s 1 → msk_ (fun v => (rts_ s v).testBit w) n = off_ s w n := by
  intro n
  induction n with
  | zero => exact fun _ => rfl
  | succ n ih =>
    intro hn
    rw [msk_, off_, ih (by omega)]
    by_cases h : w < n
    · rw [decide_eq_true h, Bool.true_and]
      cases (rts_ s n).testBit w with
      | false => rw [cond_false, cond_false, Nat.zero_mul, Nat.or_zero]
      | true => rw [cond_true, cond_true, Nat.one_mul]
    · have : (rts_ s n).testBit w = false := Nat.testBit_lt_two_pow (Nat.lt_of_lt_of_le (rts_lt hC hW (by omega)) (Nat.pow_le_pow_right (by decide) (by omega)))
      rw [decide_eq_false h, this]
      rw [Bool.false_and, cond_false, cond_false, Nat.zero_mul, Nat.or_zero]
theorem dear_nn (q : Nat → Int64) : ∀ n, (0 : Int64) ≤ (dear_ q n).2 := by
  intro n
  induction n with
  | zero => exact Int64.le_refl 0
  | succ n ih =>
    show 0 ≤ (if (dear_ q n).2 < q (200 + n) then (nI n, q (200 + n)) else dear_ q n).2
    by_cases h : (dear_ q n).2 < q (200 + n)
    · rw [if_pos h]; exact Int64.le_trans ih (Int64.le_of_lt h)
    · rw [if_neg h]; exact ih
theorem dear_eq {s : Nat → Int32} {q : Nat → Int64} (hZ : WZ s q) : ∀ n, cN s 1 ≤ n → n ≤ 12 → dear_ q n = dear_ q (cN s 1) := by
  intro n
  induction n with
  | zero => intro h _; rw [show cN s 1 = 0 by omega]
  | succ n ih =>
    intro h1 h2
    by_cases e : cN s 1 = n + 1
    · rw [e]
    · rw [← ih (by omega) (by omega)]
      show (if (dear_ q n).2 < q (200 + n) then (nI n, q (200 + n)) else dear_ q n) = dear_ q n
      rw [if_neg]
      rw [wz_w hZ n (by omega) (by omega)]
      exact Int64.not_lt.mpr (dear_nn q n)
theorem nI_shm {b : Bool} {k : Nat} (hk : k < 16) : nI (bif b then 1 else 0) <<< (nI k &&& 31) = nI ((bif b then 1 else 0) * 2 ^ k) := by
  cases b
  · rw [cond_false, Nat.zero_mul]
    exact (by decide +kernel : ∀ k, k < 16 → nI 0 <<< (nI k &&& 31) = nI 0) k hk
  · rw [cond_true, Nat.one_mul]; exact nI_sh1 k hk
section R51
variable {sa sv d N B : Nat} {m : am_M} {s : Nat → Int32} {q : Nat → Int64}
end R51
