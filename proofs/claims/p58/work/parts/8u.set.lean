/-! one write in the World's cells -/
section W8
variable {sv x a t n u k : Nat} {m : am_M} {ow : Nat → Nat}
theorem Tg.xl (h : Tg m ow a t) (sv k : Nat) (v : Int64) : Xt m sv ow ow (fun y => y = t) (fun y => y = a) 0 0 (sl_ m a k v) := ⟨(Ex.refl _ _).sl (.inr rfl), fun y _ e _ => by rw [e]; exact h.1, fun _ _ => rfl, rfl⟩
theorem Tg.xi (h : Tg m ow a t) (sv k : Nat) (v : Int32) : Xt m sv ow ow (fun y => y = t) (fun y => y = a) 0 0 (si_ m a k v) := ⟨(Ex.refl _ _).si (.inr rfl), fun y _ e _ => by rw [e]; exact h.1, fun _ _ => rfl, rfl⟩
theorem QW.set {f : Nat → Int64} (h : QW m ow a t n f) (k : Nat) (v : Int64) : QW (sl_ m a k v) ow a t n (fun j => if j = k then v else f j) := ⟨h.1, h.2.1, fun j hj => by
  show (if a = a ∧ j = k then v else gl_ m a j) = (if j = k then v else f j)
  by_cases e : j = k
  · rw [if_pos ⟨rfl, e⟩, if_pos e]
  · rw [if_neg (fun y => e y.2), if_neg e]
    exact h.2.2 j hj⟩
theorem RW.set {f : Nat → Int32} (h : RW m ow a t n f) (k : Nat) (v : Int32) : RW (si_ m a k v) ow a t n (fun j => if j = k then v else f j) := ⟨h.1, h.2.1, fun j hj => by
  show (if a = a ∧ j = k then v else gi_ m a j) = (if j = k then v else f j)
  by_cases e : j = k
  · rw [if_pos ⟨rfl, e⟩, if_pos e]
  · rw [if_neg (fun y => e y.2), if_neg e]
    exact h.2.2 j hj⟩
/-- row p of a grid changes in one place -/
theorem GW.set {f : Nat → Nat → Int64} (h : GW m ow a t u n f) {p : Nat} (hp : p < 10) (ht : ¬ (u ≤ t ∧ t < u + 10)) (k : Nat) (v : Int64) : GW (sl_ m (gr_ m a p) k v) ow a t u n (fun p' j => if p' = p ∧ j = k then v else f p' j) := by
  obtain ⟨h1, h2, h3⟩ := h
  have hp' := h3 p hp
  have e := hp'.2.1.xl 0 k v
  refine ⟨h1, h2, fun p' h4 => ?_⟩
  by_cases q : p' = p
  · subst q
    have y := hp'.set k v
    exact ⟨y.1, y.2.1, fun j hj => (y.2.2 j hj).trans (by
      show (if j = k then v else f p' j) = (if p' = p' ∧ j = k then v else f p' j)
      by_cases e2 : j = k
      · rw [if_pos e2, if_pos ⟨rfl, e2⟩]
      · rw [if_neg e2, if_neg (fun z => e2 z.2)])⟩
  · have y := (h3 p' h4).xt e (by omega)
    exact ⟨y.1, y.2.1, fun j hj => (y.2.2 j hj).trans (if_neg (fun z => q z.1)).symm⟩
end W8
