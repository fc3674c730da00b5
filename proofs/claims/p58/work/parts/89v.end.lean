/-! the class's loop ends at the end of the text -/
section I89
variable {sa sv : Nat} {N o T n B : Nat} {b : Nat → Nat}
theorem CT.kT {m : am_M} {i : Nat} (h : CT m N b n T i) : Kd b n T = 0 := by
  unfold Kd
  rw [if_neg (by have := h.2.2.2.1; omega)]
theorem sLp_end : ∀ (f c i : Nat) (m : am_M) (s : Nat → Int32) (q : Nat → Int64), T ≤ i + f → CT m N b n T i → SR m N o s q → WG B s q → ∀ x, sLp b n f c i s q = .inr x → Kd b n x.1 = 0 ∧ WG B x.2.2.1 x.2.2.2 := by
  intro f
  induction f with
  | zero =>
    intro c i m s q hT h hS hG x hx
    have hi : i ≤ T := h.2.2.2.2.2.1
    obtain rfl : i = T := by omega
    rw [← Sum.inr.inj hx]
    exact ⟨h.kT, hG⟩
  | succ f ih =>
    intro c i m s q hT h hS hG x hx
    unfold sLp at hx
    by_cases e : Kd b n i = 0
    · rw [if_pos e] at hx
      rw [← Sum.inr.inj hx]
      exact ⟨e, hG⟩
    · rw [if_neg e] at hx
      obtain ⟨y, z1, hx⟩ := eb_r hx
      have h1 := x110 (sa := default) (sv := default) (d := 0) h hS hG e
      rw [z1] at h1
      obtain ⟨m1, -, -, h2, s2⟩ := h1
      exact ih (c + 1) y.1 m1 _ _ (by have := sST_lt hG z1; omega) h2 s2 (sST_WG hG z1) x hx
end I89
