/-! the class reads its office: owners, a payee's percentage, roots, offspring -/
theorem dm_s (n : Nat) : nI (n + 1) - nI 1 = nI n := pk_sub (Nat.succ_le_succ (Nat.zero_le n))
theorem dm_m (x : Int32) : x + (-1 : Int32) = x - nI 1 := by rw [show (-1 : Int32) = -(nI 1) by decide, Int32.sub_eq_add_neg]
theorem dm_0 : (nI 0 - nI 1 < 0) = True := eq_true (by decide)
theorem nI_n0 {n : Nat} (h : n < 2 ^ 31) : (nI n - nI 1 < 0) = (n = 0) := by
  cases n with
  | zero => rw [dm_0]; exact (eq_self 0).symm ▸ rfl
  | succ n => rw [dm_s, nI_lt0 (by omega)]; exact (eq_false (Nat.succ_ne_zero n)).symm
/-- the percentage of a payee in a split -/
def shj_ (s : Nat → Int32) (w k p : Nat) : Nat := fst_ (fun j => decide (cN s (27 + 48 * w + 4 * k + j) = p)) (cN s (23 + 48 * w + k)) 0
def shr_ (s : Nat → Int32) (w k p : Nat) : Int32 := if shj_ s w k p < cN s (23 + 48 * w + k) then s (43 + 48 * w + 4 * k + shj_ s w k p) else nI 0
/-- the sources of a work, as a set; all its roots -/
def so_ (s : Nat → Int32) (w : Nat) : Nat := orF_ (fun i => cN s (60 + 48 * w + i)) (cN s (59 + 48 * w))
def rt_ (s : Nat → Int32) : Nat → Nat → Nat
  | 0, x => x
  | v + 1, x => rt_ s v (bif x.testBit v then x ||| so_ s v else x)
def rts_ (s : Nat → Int32) (w : Nat) : Nat := rt_ s w (so_ s w)
theorem isN_lt {s : Nat → Int32} {k n : Nat} (h : isN (s k) n) (hn : n ≤ 2 ^ 31) : cN s k < n := (h.c hn).2
theorem so_lt {s : Nat → Int32} (hC : WC s) (hW : WW s) {w : Nat} (hw : w < cN s 1) : so_ s w < 2 ^ w := orF_lt fun j hj => isN_lt (ww_ow hW w j hw hj) (by have := isN_lt (wc_nw hC) (by decide); omega)
theorem so_12 {s : Nat → Int32} (hC : WC s) (hW : WW s) {w : Nat} (hw : w < cN s 1) : so_ s w < 2 ^ 12 := Nat.lt_of_lt_of_le (so_lt hC hW hw) (Nat.pow_le_pow_right (by decide) (by have := isN_lt (wc_nw hC) (by decide); omega))
theorem rt_12 {s : Nat → Int32} (hC : WC s) (hW : WW s) : ∀ v x, v ≤ cN s 1 → x < 2 ^ 12 → rt_ s v x < 2 ^ 12 := by
  intro v
  induction v with
  | zero => exact fun x _ h => h
  | succ v ih =>
    intro x hv h
    refine ih _ (by omega) ?_
    cases x.testBit v with
    | false => exact h
    | true => exact Nat.or_lt_two_pow h (so_12 hC hW (by omega))
section R42
variable {sa sv d o : Nat} {m : am_M} {s : Nat → Int32} {q : Nat → Int64}
/-- works of which parts come to a work: those behind it -/
def off_ (s : Nat → Int32) (w : Nat) : Nat → Nat
  | 0 => 0
  | v + 1 => bif decide (w < v) && (rts_ s v).testBit w then off_ s w v ||| 2 ^ v else off_ s w v
end R42
