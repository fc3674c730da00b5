/-! the text is read: its two loops, whole -/
section I89
variable {sa sv d N o T n B : Nat} {b : Nat → Nat} {s : Nat → Int32} {q : Nat → Int64} {m : am_M}
theorem XF.a7 {N a k : Nat} (h : a = N + 7) (h2 : 2 ≤ k) : XF N a k := ⟨by omega, Or.inr (Or.inr (Or.inr (Or.inr (Or.inr (Or.inr (Or.inr (Or.inr (Or.inr (Or.inr (Or.inr (Or.inr (Or.inl (by omega)))))))))))))⟩
def P7 (N a k : Nat) : Prop := a = N + 7 ∧ 2 ≤ k
def m109 (m : am_M) (N o : Nat) : am_M := sr_ (sr_ m (N + 7) 2 o) (N + 7) 3 (o + 1)
theorem m109_fr : Fr (P7 N) m (m109 m N o) := ((Fr.refl _ _).sr ⟨rfl, by omega⟩).sr ⟨rfl, by omega⟩
theorem x109 (h : CT m N b n T 0) (hO : OS m o) (hV : OV m o s q) (hl : N + 27 ≤ o) (hu : o + 27 ≤ N + 243) (hG : WG B s q) : CW N (m109 m N o) (PU N o) (fun v => some (.int (nI v.1))) (fun j v m' => CT m' N b n T j ∧ SR m' N o v.2.1 v.2.2) (sLp b n 900 0 0 s q) (am_ca sa sv (d + 7) 109 [.ref (N + 7), .ref o] m) := by
  have hF : Fr (P7 N) m (m109 m N o) := m109_fr
  have hT : CT (m109 m N o) N b n T 0 := h.fr hF (fun a k z => ⟨XF.a7 z.1 z.2, by have := z.1; omega, by have := z.1; omega, by have := z.1; omega, by have := z.1; omega⟩)
  have hp : ∀ a k, o ≤ a → a < o + 27 → ¬ P7 N a k := fun a k h1 h2 z => by have := z.1; omega
  have r2 : gr_ (m109 m N o) (N + 7) 2 = o := by
    unfold m109
    rw [gr_sr, if_neg (by omega), gr_sr, if_pos ⟨rfl, rfl⟩]
  have r3 : gr_ (m109 m N o) (N + 7) 3 = o + 1 := by
    unfold m109
    rw [gr_sr, if_pos ⟨rfl, rfl⟩]
  have hS : SR (m109 m N o) N o s q := ⟨r2, r3, hO.fr' hF hp, hV.fr hF hp, hl, hu⟩
  have e1 : gr_ (sr_ m (N + 7) 2 o) o 1 = o + 1 := by rw [gr_sr, if_neg (by omega), or0_1 hO]
  rw [c109, b109_0]
  simp (disch := omega) only [gq_true, gb_true, gb_false, true_and, and_true, eq_self, not_false_eq_true, not_true_eq_false, true_or, or_true, false_or, or_false, false_and, and_false, c0_v, ci_v, cl_v, cf_v, pk_mul, nI_add, nI_clamp, nI_lt0, nI_0le, nI_eq0, nI_lt0r, nI_ltE, nI_leE, nI_eqE, nI_m1, in_t, ba0, ba1, Nat.one_ne_zero, Nat.reduceEqDiff, Nat.reduceLeDiff, Nat.add_eq_zero_iff, xk7 h.1, ok0 hO, e1, eq_false (show ¬ o = 0 by omega)]
  exact x109_15 900 0 0 _ s q rfl hT hS hG
end I89
section R89
variable {sa sv d N n B : Nat} {b : Nat → Nat} {s : Nat → Int32} {q : Nat → Int64} {m : am_M}
end R89
