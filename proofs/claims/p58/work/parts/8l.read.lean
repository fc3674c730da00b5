/-! the World reads its assignments -/
section W8
variable {sa sv d x a t n z u c it i : Nat} {m m1 m2 : am_M} {ow ow' : Nat → Nat} {T P : Nat → Prop} {L : List Nat} {s : Nat → Int32} {q : Nat → Int64}
theorem wa_n (hA : WA s) (hC : WC s) {a c : Nat} (ha : a < cN s 2) (hc : c < 6) : s (594 + 6 * a + c) = nI (cN s (594 + 6 * a + c)) ∧ cN s (594 + 6 * a + c) < 10000 := by
  obtain ⟨_, c0⟩ := (wc_np hC).c (by decide)
  obtain ⟨_, c1⟩ := (wc_nw hC).c (by decide)
  obtain rfl | rfl | rfl | rfl | rfl | rfl : c = 0 ∨ c = 1 ∨ c = 2 ∨ c = 3 ∨ c = 4 ∨ c = 5 := by omega
  · obtain ⟨e, b⟩ := (wa_p hA a ha).c (by omega)
    exact ⟨e, by omega⟩
  · obtain ⟨e, b⟩ := (wa_w hA a ha).c (by omega)
    exact ⟨e, by omega⟩
  · obtain ⟨e, b⟩ := (wa_t hA a ha).c (by omega)
    exact ⟨e, by omega⟩
  · obtain ⟨e, b⟩ := (wa_c hA a ha).c (by omega)
    exact ⟨e, by omega⟩
  · obtain ⟨e, b⟩ := (wa_f hA a ha).c (by omega)
    exact ⟨e, by omega⟩
  · obtain ⟨e, b⟩ := (wa_u hA a ha).c (by omega)
    exact ⟨e, by omega⟩
theorem lv_le (s : Nat → Int32) (hA : WA s) (hC : WC s) (p w on : Nat) : ∀ i, i ≤ cN s 2 → lv_ s p w on i ≤ 10000 * i := by
  intro i
  induction i with
  | zero => intro _; exact Nat.le_refl _
  | succ i ih =>
    intro hi
    have h1 := ih (by omega)
    have h2 := (wa_n hA hC (a := i) (c := 3) (by omega) (by omega)).2
    unfold lv_ at h1 ⊢
    rw [sum_]
    split <;> omega
theorem x281 {p w on : Nat} (h : WS m sv x ow s q) (hA : WA s) (hC : WC s) (hsv : sv < gt_ m) (hp : p < 2 ^ 20) (hw : w < 2 ^ 20) (hon : on < 2 ^ 20) : ∃ m', am_ca sa sv (d + 4) 281 [.ref x, .int (nI p), .int (nI w), .int (nI on)] m = some (.inl (some (.int (nI (lv_ s p w on (cN s 2))))), m') ∧ Ex NoP 1 4 m m' := by
  obtain ⟨L, ⟨⟨c, hc⟩, a1, a0⟩, a2, a3⟩ := h.as
  have no : ∀ y, ¬ NoP y := fun _ y => y
  have hz : ¬ gr_ m x 4 = 0 := a1.2.2
  have hz' : 0 < gr_ m x 4 := Nat.pos_of_ne_zero hz
  have hn := ((wc_na hC).c (by decide)).2
  have loop : ∀ (k i : Nat) (m1 : am_M) (o6 : Option Value) (it : Nat), i + k = L.length → gt_ m ≤ it → IT m1 it (gr_ m x 4) i → Ex NoP 1 4 m m1 → ∃ m2, r281 sa sv (d + 3) 14 [some (.ref x), some (.int (nI p)), some (.int (nI w)), some (.int (nI on)), some (.int (nI (lv_ s p w on i))), some (.ref it), o6] [] m1 = some (.inl (some (.int (nI (lv_ s p w on L.length)))), m2) ∧ Ex NoP 1 4 m m2 := by
    intro k
    induction k with
    | zero =>
      intro i m1 o6 it hk hit hI e
      have hi : i = L.length := by omega
      subst hi
      obtain ⟨e1, k1⟩ := it_end (sa := sa) (d := d + 2) hc hz' hsv e hI
      exact ⟨m1, by rw [b281_14, gq_pos k1, e1, ci_v, gb_pos nI_0], e⟩
    | succ k ih =>
      intro i m1 o6 it hk hit hI e
      have hi : i < L.length := by omega
      obtain ⟨e1, k1, m2, e2, I2, f2⟩ := it_go (sa := sa) (d := d + 1) hc hz' hsv e hI hit hi
      obtain ⟨b1, b2, b3⟩ := a3 i hi
      have kr : gk_ m2 (L.getD i 0) = (2, 6) := (f2.k b2.2.1).trans b1
      have vr : ∀ c, c < 6 → gi_ m2 (L.getD i 0) c = nI (cN s (594 + 6 * i + c)) ∧ cN s (594 + 6 * i + c) < 10000 := fun c hc' => by
        rw [f2.i b2.2.1 (no _), b3 c hc']
        exact wa_n hA hC (by omega) hc'
      have ix : ∀ c, c < 6 → ((2 = 2 ∨ 2 = 7) ∧ in_ (nI c) 6) ∧ (nI c).toNatClampNeg = c := fun c hc' => ⟨⟨.inl rfl, in_of hc' (by omega)⟩, nI_clamp (by omega)⟩
      have hlv := lv_le s hA hC p w on i (by omega)
      obtain ⟨m3, e3, f3⟩ := ih (i + 1) m2 (some (.ref (L.getD i 0))) it (by omega) hit I2 f2
      refine ⟨m3, ?_, f3⟩
      have sm : lv_ s p w on (i + 1) = lv_ s p w on i + (if cN s (594 + 6 * i + 0) = p ∧ cN s (594 + 6 * i + 1) = w ∧ cN s (594 + 6 * i + 4) ≤ on ∧ on < cN s (594 + 6 * i + 5) then cN s (594 + 6 * i + 3) else 0) := rfl
      rw [sm] at e3
      obtain ⟨v0, w0⟩ := vr 0 (by omega)
      obtain ⟨v1, w1⟩ := vr 1 (by omega)
      obtain ⟨v3, w3⟩ := vr 3 (by omega)
      obtain ⟨v4, w4⟩ := vr 4 (by omega)
      obtain ⟨v5, w5⟩ := vr 5 (by omega)
      rw [b281_14, gq_pos k1, e1, ci_v, gb_neg (by decide), gq_pos k1, e2, cr_v, kr, gq_pos ⟨rfl, fun y => absurd y (by decide)⟩, gq_pos (ix 0 (by omega)).1, (ix 0 (by omega)).2, v0]
      by_cases q0 : cN s (594 + 6 * i + 0) = p
      · rw [gb_pos (by rw [q0]), gq_pos (ix 1 (by omega)).1, (ix 1 (by omega)).2, v1]
        by_cases q1 : cN s (594 + 6 * i + 1) = w
        · rw [gb_pos (by rw [q1]), gq_pos (ix 4 (by omega)).1, (ix 4 (by omega)).2, v4]
          by_cases q4 : on < cN s (594 + 6 * i + 4)
          · rw [if_neg (by omega)] at e3
            rw [gb_pos ((nI_ltI (by omega) (by omega)).mpr q4), nI_add]
            exact e3
          · rw [gb_neg (by rw [nI_ltI (by omega) (by omega)]; exact q4), gq_pos (ix 5 (by omega)).1, (ix 5 (by omega)).2, v5]
            by_cases q5 : cN s (594 + 6 * i + 5) ≤ on
            · rw [if_neg (by omega)] at e3
              rw [gb_pos (by rw [nI_leI (by omega) (by omega)]; exact q5), nI_add]
              exact e3
            · rw [if_pos ⟨q0, q1, by omega, by omega⟩] at e3
              rw [gb_neg (by rw [nI_leI (by omega) (by omega)]; exact q5), gq_pos (ix 3 (by omega)).1, (ix 3 (by omega)).2, v3, nI_add]
              exact e3
        · rw [if_neg (fun y => q1 y.2.1)] at e3
          rw [gb_neg (by rw [nI_eqE (by omega) (by omega)]; exact q1), nI_add]
          exact e3
      · rw [if_neg (fun y => q0 y.1)] at e3
        rw [gb_neg (by rw [nI_eqE (by omega) (by omega)]; exact q0), nI_add]
        exact e3
  obtain ⟨k0, m1, e1, I1, f1, g1⟩ := it_new (sa := sa) (d := d + 1) hc hz' hsv (Ex.refl NoP m)
  obtain ⟨m2, e2, f2⟩ := loop L.length 0 m1 none (gt_ m) (by omega) (Nat.le_refl _) I1 (f1.mono (fun _ _ y => y) (by omega) (by omega))
  rw [a2] at e2
  exact ⟨m2, by rw [c281, b281_0, gq_pos ⟨h.k, hz⟩, gq_pos k0, e1, cr_v]; exact e2, f2⟩
end W8
