/-! the two sums of a line -/
section W8
variable {sa sv d x r p : Nat} {m : am_M} {ow : Nat → Nat} {s : Nat → Int32} {q : Nat → Int64}
/-- tags of rows of longs -/
def VT (t : Nat) : Prop := t = 10 ∨ 20 ≤ t ∧ t < 60
/-- only such longs changed -/
def Lg (ow : Nat → Nat) (m m1 : am_M) : Prop := (gk_ m1 = gk_ m ∧ gi_ m1 = gi_ m ∧ gr_ m1 = gr_ m ∧ gt_ m1 = gt_ m ∧ gc_ m1 = gc_ m ∧ gs_ m1 = gs_ m ∧ ge_ m1 = ge_ m) ∧ ∀ a, ¬ VT (ow a) → gl_ m1 a = gl_ m a
theorem Lg.trans {m m1 m2 : am_M} (h : Lg ow m m1) (h' : Lg ow m1 m2) : Lg ow m m2 := ⟨⟨h'.1.1.trans h.1.1, h'.1.2.1.trans h.1.2.1, h'.1.2.2.1.trans h.1.2.2.1, h'.1.2.2.2.1.trans h.1.2.2.2.1, h'.1.2.2.2.2.1.trans h.1.2.2.2.2.1, h'.1.2.2.2.2.2.1.trans h.1.2.2.2.2.2.1, h'.1.2.2.2.2.2.2.trans h.1.2.2.2.2.2.2⟩, fun a ha => (h'.2 a ha).trans (h.2 a ha)⟩
theorem Lg.sl {a t : Nat} (m : am_M) (k : Nat) (v : Int64) (ht : ow a = t) (h : t = 10 ∨ 20 ≤ t ∧ t < 60) : Lg ow m (sl_ m a k v) := ⟨⟨rfl, rfl, rfl, rfl, rfl, rfl, rfl⟩, fun b hb => funext fun j => if_neg (fun z => hb (by unfold VT; rw [z.1, ht]; exact h))⟩
theorem Lg.ex {m m1 : am_M} (h : Lg ow m m1) : Ex (fun y => VT (ow y)) 0 0 m m1 := by
  obtain ⟨⟨a1, a2, a3, a4, a5, a6, a7⟩, b⟩ := h
  exact ⟨⟨by omega, by omega, by omega, a7⟩, fun a _ => ⟨congrFun a1 a, fun q => ⟨congrFun a2 a, b a q, congrFun a3 a⟩⟩⟩
/-- a row of ints besides -/
theorem Lg.exi {m m1 : am_M} {r k : Nat} {v : Int32} (h : Lg ow (si_ m r k v) m1) : Ex (fun y => y = r ∨ VT (ow y)) 0 0 m m1 :=
  ((Ex.refl (fun y => y = r) m).si (.inr rfl)).mono (P' := fun y => y = r ∨ VT (ow y)) (fun _ _ q => .inl q) (Nat.le_refl _) (Nat.le_refl _) |>.trans h.ex (fun _ _ q => .inr q)
theorem x290_294s (h : WS m sv x ow s q) (hC : WC s) (hW : WW s) (hG : GLm s) (kr : gk_ m r = (2, 4)) (v1 : gi_ m r 1 = nI p) (hp : p < 10) {j : Nat} (hj : j < 2) (l1 l2 l6 : Int32) (l3 l4 : Nat) (o8 o9 : Option Value) : ∃ m1, r290 sa sv d 294 [some (.ref x), some (.int l1), some (.int l2), some (.ref l3), some (.ref l4), some (.ref r), some (.int l6), some (.int (nI j)), o8, o9] [] m = r290 sa sv d 294 [some (.ref x), some (.int l1), some (.int l2), some (.ref l3), some (.ref l4), some (.ref r), some (.int l6), some (.int (nI (j + 1))), o8, o9] [] m1 ∧ WS m1 sv x ow s (upq q (10 + 4 * p + j) (q (10 + 4 * p + j) + (gi_ m r (2 + j)).toInt64)) ∧ Lg ow m m1 := by
  have t1 := h.tot.2.2 p hp
  have z9 : ¬ gr_ m x 9 = 0 := h.tot.2.1.2.2
  obtain ⟨f10, d10⟩ := h.cu
  have z10 : ¬ gr_ m x 10 = 0 := d10.2.1.2.2
  have c1 := d10.2.2 p hp
  have W1 := h.tot1 hC hW hG hp (show j < 4 by omega) (q (10 + 4 * p + j) + (gi_ m r (2 + j)).toInt64)
  have W2 := W1.cur1 hC hW hG (j := j) hp (gl_ (sl_ m (gr_ m (gr_ m x 9) p) j (q (10 + 4 * p + j) + (gi_ m r (2 + j)).toInt64)) (gr_ m (gr_ m x 10) p) j + (gi_ m r (2 + j)).toInt64)
  refine ⟨_, ?_, W2, (Lg.sl _ _ _ t1.2.1.1 (by omega)).trans (Lg.sl _ _ _ c1.2.1.1 (by omega))⟩
  rw [b290_294, gb_neg (by rw [nI_leI (by omega) (by omega)]; omega), gq_pos ⟨h.k, z9⟩, kr, gq_pos ⟨.inl rfl, in_of (show 1 < 4 by omega) (by omega)⟩, nI_clamp (show 1 < 2 ^ 31 by omega), v1, nI_clamp (show p < 2 ^ 31 by omega), h.tot.1, gq_pos ⟨.inr (.inr (.inr rfl)), in_of hp (by omega), t1.2.1.2.2⟩, t1.1, gq_pos ⟨rfl, in_of (show j < 4 by omega) (by omega)⟩, nI_add, gq_pos ⟨.inl rfl, in_of (show 2 + j < 4 by omega) (by omega)⟩, gq_pos ⟨rfl, in_of (show j < 4 by omega) (by omega)⟩, gq_pos ⟨h.k, z10⟩, gq_pos ⟨.inl rfl, in_of (show 1 < 4 by omega) (by omega)⟩, d10.1, gq_pos ⟨.inr (.inr (.inr rfl)), in_of hp (by omega), c1.2.1.2.2⟩, c1.1, gq_pos ⟨rfl, in_of (show j < 3 by omega) (by omega)⟩, gq_pos ⟨.inl rfl, in_of (show 2 + j < 4 by omega) (by omega)⟩, gq_pos ⟨rfl, in_of (show j < 3 by omega) (by omega)⟩, nI_clamp (show j < 2 ^ 31 by omega), nI_clamp (show 2 + j < 2 ^ 31 by omega), t1.2.2 j (by omega), nI_add]
  rfl
theorem x290_294 (h : WS m sv x ow s q) (hC : WC s) (hW : WW s) (hG : GLm s) (kr : gk_ m r = (2, 4)) (v1 : gi_ m r 1 = nI p) (hp : p < 10) (l1 l2 l6 : Int32) (l3 l4 : Nat) (o8 o9 : Option Value) : ∃ m2, r290 sa sv d 294 [some (.ref x), some (.int l1), some (.int l2), some (.ref l3), some (.ref l4), some (.ref r), some (.int l6), some (.int (nI 0)), o8, o9] [] m = r290 sa sv d 63 [some (.ref x), some (.int l1), some (.int l2), some (.ref l3), some (.ref l4), some (.ref r), some (.int l6), some (.int (nI 2)), o8, o9] [] m2 ∧ WS m2 sv x ow s (upq (upq q (10 + 4 * p) (q (10 + 4 * p) + (gi_ m r 2).toInt64)) (10 + 4 * p + 1) (q (10 + 4 * p + 1) + (gi_ m r 3).toInt64)) ∧ Lg ow m m2 := by
  obtain ⟨m1, e1, W1, g1⟩ := x290_294s (sa := sa) (d := d) h hC hW hG kr v1 hp (j := 0) (by omega) l1 l2 l6 l3 l4 o8 o9
  obtain ⟨m2, e2, W2, g2⟩ := x290_294s (sa := sa) (d := d) W1 hC hW hG (r := r) (by rw [g1.1.1]; exact kr) (by rw [g1.1.2.1]; exact v1) hp (j := 1) (by omega) l1 l2 l6 l3 l4 o8 o9
  refine ⟨m2, ?_, ?_, g1.trans g2⟩
  · rw [e1, e2, b290_294, gb_pos (by rw [nI_leI (by omega) (by omega)]; exact Nat.le_refl _)]
  · rw [g1.1.2.1] at W2
    have e : upq q (10 + 4 * p + 0) (q (10 + 4 * p + 0) + (gi_ m r (2 + 0)).toInt64) (10 + 4 * p + 1) = q (10 + 4 * p + 1) := if_neg (by omega)
    rw [e] at W2
    exact W2
end W8
