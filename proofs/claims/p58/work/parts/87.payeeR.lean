/-! how the reference's statements end; a payee is read: the reference -/
section R87
variable {sa sv d N T n i B : Nat} {m : am_M} {b : Nat → Nat} {s s' : Nat → Int32} {q q' : Nat → Int64} {σ : Er ⊕ Nat}
theorem pst_r {α : Type} {z : Er ⊕ (Nat × α)} {j : Nat} (h : pst z = .inr j) : ∃ x, z = .inr x ∧ x.1 = j := by
  cases z with
  | inl e => cases h
  | inr x => exact ⟨x, rfl, Sum.inr.inj h⟩
theorem eb_r {α β : Type} {z : Er ⊕ α} {f : α → Er ⊕ β} {x : β} (h : eb z f = .inr x) : ∃ y, z = .inr y ∧ f y = .inr x := by
  cases z with
  | inl e => cases h
  | inr y => exact ⟨y, rfl, h⟩
theorem isK_r {k : Nat} (h : isK b n k σ = true) : ∃ j, σ = .inr j ∧ Kd b n j = k := by
  cases σ with
  | inl e => cases h
  | inr j => exact ⟨j, rfl, of_decide_eq_true h⟩
theorem gd_r (h : gd_s σ = true) : ∃ j, σ = .inr j := by
  cases σ with
  | inl e => cases h
  | inr j => exact ⟨j, rfl⟩
def pyS1 (s : Nat → Int32) (l : Int32) (k : Nat) : Int32 := if k = 0 then nI (cN s 0 + 1) else if k = 8 + cN s 0 then l else s k
end R87
