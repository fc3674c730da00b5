/-! the reference reads names -/
def sNew (s : Nat → Int32) (q : Nat → Int64) (b : Nat → Nat) (n i : Nat) : Er ⊕ (Nat × Int64) := if Kd b n i = 2 then (if pnm_ s q (Vl b n i) < cN s 0 ∨ wnm_ s q (Vl b n i) < cN s 1 then err_ b n 4 i else .inr (i + 1, Vl b n i)) else err_ b n 1 i
def sPay (s : Nat → Int32) (q : Nat → Int64) (b : Nat → Nat) (n i : Nat) : Er ⊕ (Nat × Nat) := if Kd b n i = 2 then (if pnm_ s q (Vl b n i) < cN s 0 then .inr (i + 1, pnm_ s q (Vl b n i)) else err_ b n 3 i) else err_ b n 1 i
/-- has a work as many sources, or splits, as can be -/
def rm_ (s : Nat → Int32) (t w : Nat) : Prop := (t = 1 ∧ cN s (59 + 48 * w) = 3) ∨ (t = 2 ∧ cN s (18 + 48 * w) = 4)
noncomputable def sWrk (s : Nat → Int32) (q : Nat → Int64) (b : Nat → Nat) (n t i : Nat) : Er ⊕ (Nat × Nat) := if Kd b n i = 2 then (if wnm_ s q (Vl b n i) < cN s 1 then @ite _ (rm_ s t (wnm_ s q (Vl b n i))) (Classical.propDecidable _) (err_ b n 6 i) (.inr (i + 1, wnm_ s q (Vl b n i))) else err_ b n 3 i) else err_ b n 1 i
def sFst (b : Nat → Nat) (n c k i : Nat) : Er ⊕ (Nat × Unit) := if c = k then err_ b n 6 i else .inr (i + 1, ())
/-- behind the semicolon's test the reference stays at it -/
def sFit (b : Nat → Nat) (n why i : Nat) : Er ⊕ (Nat × Unit) := if Kd b n i = 4 then (if why = 0 then .inr (i, ()) else .inl (5, St b n i, why)) else err_ b n 1 i
theorem fst_bd (P : Nat → Bool) (n : Nat) : fst_ P n 0 ≤ n := by
  have := fst_le (P := P) n 0
  omega
theorem ix_s {j n : Nat} (h : j < n) : ix_ j n = nI j := if_pos h
theorem ix_n {j n : Nat} (h : ¬ j < n) : ix_ j n = -1 := if_neg h
section D80
variable {sa sv d N : Nat} {m : am_M} {b : Nat → Nat} {n : Nat} {σ : Er ⊕ Nat} {s : Nat → Int32} {q : Nat → Int64}
end D80
