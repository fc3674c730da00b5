/-! a work, a cover are read: the reference -/
section R89
variable {sa sv d N T n i B : Nat} {m : am_M} {b : Nat → Nat} {s s' : Nat → Int32} {q q' : Nat → Int64} {σ : Er ⊕ Nat} {L : List (Nat × Nat)}
theorem gd_eb {α : Type} {f : Nat → Er ⊕ (Nat × α)} (h : gd_s (pst (eb σ f)) = true) : gd_s σ = true := by
  cases σ with
  | inl e => cases h
  | inr j => rfl
theorem gd_pst {α : Type} {z : Er ⊕ (Nat × α)} (h : gd_s (pst z) = true) : ∃ x, z = .inr x := by
  cases z with
  | inl e => cases h
  | inr j => exact ⟨_, rfl⟩
theorem splU_1 (hL : L.length ≤ 4) : splU (wk1 s) (cN s 1) 0 0 L 1 = nI (cN s 1 + 1) := by
  unfold splU; rw [if_neg (by omega), if_neg (by omega), if_neg (by omega), if_neg (by omega), if_neg (by omega)]; exact if_pos rfl
theorem splU_59 (hL : L.length ≤ 4) : splU (wk1 s) (cN s 1) 0 0 L (59 + 48 * cN s 1) = s (59 + 48 * cN s 1) := by
  unfold splU; rw [if_neg (by omega), if_neg (by omega), if_neg (by omega), if_neg (by omega), if_neg (by omega)]
  exact if_neg (by omega)
end R89
