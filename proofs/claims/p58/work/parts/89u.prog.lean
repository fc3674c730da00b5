/-! a statement goes on by a token at least -/
section G89
variable {s : Nat → Int32} {q : Nat → Int64} {B n i : Nat} {b : Nat → Nat}
theorem sShare_lt {l : List (Nat × Nat)} {x : Nat × List (Nat × Nat)} (h : sShare s q b n l i = .inr x) : i < x.1 := by
  unfold sShare at h
  split at h
  · split at h
    · split at h
      · cases h
      · split at h
        · cases h
        · obtain ⟨y, z1, h⟩ := eb_r h
          have := (sNum_i z1).2.1
          rw [← Sum.inr.inj h]
          show i < y.1
          omega
    · cases h
  · cases h
theorem sShl_le : ∀ (f : Nat) (l : List (Nat × Nat)) (i : Nat) {x : Nat × List (Nat × Nat)}, sShl s q b n f l i = .inr x → i ≤ x.1 := by
  intro f
  induction f with
  | zero => intro l i x h; rw [← Sum.inr.inj h]; exact Nat.le_refl _
  | succ f ih =>
    intro l i x h
    unfold sShl at h
    obtain ⟨y, z1, h⟩ := eb_r h
    have := sShare_lt z1
    split at h
    · have := ih _ _ h; omega
    · rw [← Sum.inr.inj h]; omega
theorem sShs_lt {x : Nat × List (Nat × Nat)} (h : sShs s q b n i = .inr x) : i < x.1 := by
  unfold sShs at h
  obtain ⟨y, z1, h⟩ := eb_r h
  have := (sTake_i z1).2
  have := sShl_le _ _ _ h
  omega
end G89
