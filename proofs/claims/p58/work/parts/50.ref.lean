/-! the reference reads its rows -/
theorem gi_siN {m : am_M} {a b k : Nat} {v : Int32} (h : ¬ b = a) : gi_ (si_ m a k v) b = gi_ m b := funext fun j => if_neg fun z => h z.1
theorem gl_slN {m : am_M} {a b k : Nat} {v : Int64} (h : ¬ b = a) : gl_ (sl_ m a k v) b = gl_ m b := funext fun j => if_neg fun z => h z.1
theorem XS.si {m : am_M} {N : Nat} (h : XS m N) {a k : Nat} {v : Int32} (h8 : ¬ a = N + 8) (h11 : ¬ a = N + 11) (h21 : ¬ a = N + 21) : XS (si_ m a k v) N := by
  refine ⟨h.1, h.2.1, fun x hx => ?_⟩
  have hx2 := h.2.2 x hx
  rw [gi_si, if_neg]
  · exact hx2
  · rintro ⟨z, -⟩
    simp only [xw_, List.mem_cons, List.mem_nil_iff, or_false] at hx
    rcases hx with rfl | rfl | rfl
    · exact h8 z.symm
    · exact h11 z.symm
    · exact h21 z.symm
theorem lgc_gt (a b : Int64) : (0 < lg_cmp a b) = (b < a) := propext (by
  rw [← Int32.not_le, lgc_le, Int64.not_le])
theorem yin (p : Int32) (c : Int64) (n : Nat) (hc : c.toInt = (n : Int) - 1) : decide ((0 : Int64) ≤ p.toInt64 ∧ p.toInt64 ≤ c) = inR p n := by
  unfold inR
  refine decide_eq_decide.mpr ?_
  rw [Int64.le_iff_toInt_le, Int64.le_iff_toInt_le, Int32.toInt_toInt64, hc, show (0 : Int64).toInt = 0 by decide]
  omega
theorem yinN (p : Int32) (n : Nat) (hn : n < 2 ^ 30) : decide ((0 : Int64) ≤ p.toInt64 ∧ p.toInt64 ≤ (nI n - nI 1).toInt64) = inR p n :=
  yin p _ n (by rw [Int32.toInt_toInt64, pk_sub_toInt (by omega) (by omega)]; rfl)
section R50
variable {sa sv d N : Nat} {m : am_M} {s : Nat → Int32} {q : Nat → Int64}
def cd2_ (a b : Bool) : Nat := bif a then (bif b then 0 else 2) else 1
end R50
