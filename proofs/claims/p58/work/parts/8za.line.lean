/-! a line is booked: behind its advances -/
section W8
variable {sa sv d x r p : Nat} {m : am_M} {ow : Nat → Nat} {s : Nat → Int32} {q : Nat → Int64}
/-- a write in a cell that is no World's -/
theorem WS.scr (h : WS m sv x ow s q) (hG : GLm s) (hna : cN s 2 ≤ 16) (hnd : cN s 3 ≤ 12) (hr : 300 ≤ ow r) (k : Nat) (v : Int32) : WS (si_ m r k v) sv x ow s q :=
  h.xt (T := fun y => 300 ≤ y) (P := fun y => y = r) (n := 0) (z := 0) ⟨(Ex.refl _ _).si (.inr rfl), fun y _ e _ => by rw [e]; exact hr, fun _ _ => rfl, rfl⟩ (fun t y => y) (by have := hG.1; omega) hG.2 hna hnd
theorem x290_102e (h : WS m sv x ow s q) (hC : WC s) (hW : WW s) (hG : GLm s) (hna : cN s 2 ≤ 16) (hnd : cN s 3 ≤ 12) (hr : 300 ≤ ow r) (kr : gk_ m r = (2, 4)) {w A left it : Nat} (v0 : gi_ m r 0 = nI w) (v1 : gi_ m r 1 = nI p) (v2 : gi_ m r 2 = nI A) (hw : w < 12) (hp : p < 10) (hl : left ≤ A) (hA : A < 2 ^ 30) (ki : gk_ m it = (1, 16)) (e1 : am_ca sa sv d 245 [.ref it] m = some (.inl (some (.int (nI 0))), m)) (l1 l2 : Int32) (l3 l4 : Nat) (o8 o9 : Option Value) : ∃ m2, r290 sa sv d 102 [some (.ref x), some (.int l1), some (.int l2), some (.ref l3), some (.ref l4), some (.ref r), some (.int (nI left)), some (.ref it), o8, o9] [] m = r290 sa sv d 294 [some (.ref x), some (.int l1), some (.int l2), some (.ref l3), some (.ref l4), some (.ref r), some (.int (nI left)), some (.int (nI 0)), o8, o9] [] m2 ∧ WS m2 sv x ow s (upq q p (q p + (nI left).toInt64)) ∧ Lg ow (si_ m r 3 (nI (A - left))) m2 := by
  have W0 := h.scr hG hna hnd hr 3 (nI (A - left))
  have z7 : ¬ gr_ m x 7 = 0 := h.ba.2.1.2.2
  obtain ⟨f11, d11⟩ := h.ea
  have z11 : ¬ gr_ m x 11 = 0 := d11.2.1.2.2
  have c1 := d11.2.2 p hp
  have W1 := W0.bal1 hC hW hG hp (q p + (nI left).toInt64)
  have W2 := W1.ear1 hC hW hG (j := w) hp (gl_ (sl_ m (gr_ m x 7) p (q p + (nI left).toInt64)) (gr_ m (gr_ m x 11) p) w + (nI A).toInt64)
  have u0 : gi_ (si_ m r 3 (nI (A - left))) r 0 = nI w := by rw [gi_si, if_neg (by omega), v0]
  have u1 : gi_ (si_ m r 3 (nI (A - left))) r 1 = nI p := by rw [gi_si, if_neg (by omega), v1]
  have u2 : gi_ (si_ m r 3 (nI (A - left))) r 2 = nI A := by rw [gi_si, if_neg (by omega), v2]
  refine ⟨_, ?_, W2, (Lg.sl _ _ _ h.ba.2.1.1 (by omega)).trans (Lg.sl _ _ _ c1.2.1.1 (by omega))⟩
  rw [b290_102, gq_pos ki, e1, ci_v, gb_pos nI_0, kr, gq_pos ⟨.inl rfl, in_of (show 2 < 4 by omega) (by omega)⟩, gq_pos ⟨rfl, in_of (show 3 < 4 by omega) (by omega)⟩, gq_pos ⟨h.k, z7⟩, gq_pos ⟨.inl rfl, in_of (show 1 < 4 by omega) (by omega)⟩, nI_clamp (show 0 < 2 ^ 31 by omega), nI_clamp (show 1 < 2 ^ 31 by omega), nI_clamp (show 2 < 2 ^ 31 by omega), nI_clamp (show 3 < 2 ^ 31 by omega), v2, nI_sub hl, u1, u0, u2, nI_clamp (show p < 2 ^ 31 by omega), nI_clamp (show w < 2 ^ 31 by omega), h.ba.1, gq_pos ⟨rfl, in_of hp (by omega)⟩, gq_pos ⟨rfl, in_of hp (by omega)⟩, gq_pos ⟨h.k, z11⟩, gq_pos ⟨.inl rfl, in_of (show 1 < 4 by omega) (by omega)⟩, d11.1, gq_pos ⟨.inr (.inr (.inr rfl)), in_of hp (by omega), c1.2.1.2.2⟩, gq_pos ⟨.inl rfl, in_of (show 0 < 4 by omega) (by omega)⟩, c1.1, gq_pos ⟨rfl, in_of hw (by omega)⟩, gq_pos ⟨.inl rfl, in_of (show 2 < 4 by omega) (by omega)⟩, gq_pos ⟨rfl, in_of hw (by omega)⟩, h.ba.2.2 p hp]
  rfl
end W8
