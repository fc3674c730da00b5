/-! what a run that makes new cells leaves as it was -/
def Ex (P : Nat → Prop) (n z : Nat) (m m' : am_M) : Prop := (gt_ m ≤ gt_ m' ∧ gc_ m' ≤ gc_ m + n ∧ gs_ m' ≤ gs_ m + z ∧ ge_ m' = ge_ m) ∧ ∀ a, a < gt_ m → gk_ m' a = gk_ m a ∧ (¬ P a → gi_ m' a = gi_ m a ∧ gl_ m' a = gl_ m a ∧ gr_ m' a = gr_ m a)
section X8
variable {P P' : Nat → Prop} {n z n' z' : Nat} {m m1 m2 : am_M}
theorem Ex.refl (P : Nat → Prop) (m : am_M) : Ex P 0 0 m m := ⟨⟨Nat.le_refl _, Nat.le_refl _, Nat.le_refl _, rfl⟩, fun _ _ => ⟨rfl, fun _ => ⟨rfl, rfl, rfl⟩⟩⟩
theorem Ex.gt (h : Ex P n z m m1) : gt_ m ≤ gt_ m1 := h.1.1
theorem Ex.ge (h : Ex P n z m m1) : ge_ m1 = ge_ m := h.1.2.2.2
theorem Ex.k (h : Ex P n z m m1) {a : Nat} (ha : a < gt_ m) : gk_ m1 a = gk_ m a := (h.2 a ha).1
theorem Ex.i (h : Ex P n z m m1) {a : Nat} (ha : a < gt_ m) (hp : ¬ P a) : gi_ m1 a = gi_ m a := ((h.2 a ha).2 hp).1
theorem Ex.l (h : Ex P n z m m1) {a : Nat} (ha : a < gt_ m) (hp : ¬ P a) : gl_ m1 a = gl_ m a := ((h.2 a ha).2 hp).2.1
theorem Ex.r (h : Ex P n z m m1) {a : Nat} (ha : a < gt_ m) (hp : ¬ P a) : gr_ m1 a = gr_ m a := ((h.2 a ha).2 hp).2.2
theorem Ex.trans (h : Ex P n z m m1) (h' : Ex P' n' z' m1 m2) (hp : ∀ a, a < gt_ m → P' a → P a) : Ex P (n + n') (z + z') m m2 := by
  obtain ⟨⟨a1, a2, a3, a4⟩, a5⟩ := h
  obtain ⟨⟨b1, b2, b3, b4⟩, b5⟩ := h'
  refine ⟨⟨by omega, by omega, by omega, b4.trans a4⟩, fun a ha => ?_⟩
  obtain ⟨c1, c2⟩ := a5 a ha
  obtain ⟨d1, d2⟩ := b5 a (by omega)
  refine ⟨d1.trans c1, fun q => ?_⟩
  obtain ⟨e1, e2, e3⟩ := c2 q
  obtain ⟨f1, f2, f3⟩ := d2 (fun y => q (hp a ha y))
  exact ⟨f1.trans e1, f2.trans e2, f3.trans e3⟩
theorem Ex.mono (h : Ex P n z m m1) (hp : ∀ a, a < gt_ m → P a → P' a) (hn : n ≤ n') (hz : z ≤ z') : Ex P' n' z' m m1 := ⟨⟨h.1.1, by have := h.1.2.1; omega, by have := h.1.2.2.1; omega, h.1.2.2.2⟩, fun a ha => ⟨(h.2 a ha).1, fun q => (h.2 a ha).2 (fun y => q (hp a ha y))⟩⟩
theorem Ex.al (m : am_M) (k : Nat × Nat) (z : Nat) : Ex P 1 z m (al_ m k z) := ⟨⟨Nat.le_succ _, Nat.le_refl _, Nat.le_refl _, rfl⟩, fun a ha => by
  have hb : ¬ a = gt_ m := by omega
  exact ⟨if_neg hb, fun _ => ⟨if_neg hb, if_neg hb, if_neg hb⟩⟩⟩
/-- a write at a cell that is free to change, or is new -/
theorem Ex.si (h : Ex P n z m m1) {a k : Nat} {v : Int32} (hp : gt_ m ≤ a ∨ P a) : Ex P n z m (si_ m1 a k v) := ⟨h.1, fun b hb => ⟨(h.2 b hb).1, fun q => by
  obtain ⟨e1, e2, e3⟩ := (h.2 b hb).2 q
  refine ⟨(funext fun j => if_neg (fun y => ?_)).trans e1, e2, e3⟩
  rcases hp with hp | hp
  · omega
  · exact q (y.1 ▸ hp)⟩⟩
theorem Ex.sl (h : Ex P n z m m1) {a k : Nat} {v : Int64} (hp : gt_ m ≤ a ∨ P a) : Ex P n z m (sl_ m1 a k v) := ⟨h.1, fun b hb => ⟨(h.2 b hb).1, fun q => by
  obtain ⟨e1, e2, e3⟩ := (h.2 b hb).2 q
  refine ⟨e1, (funext fun j => if_neg (fun y => ?_)).trans e2, e3⟩
  rcases hp with hp | hp
  · omega
  · exact q (y.1 ▸ hp)⟩⟩
theorem Ex.sr (h : Ex P n z m m1) {a k : Nat} {v : Nat} (hp : gt_ m ≤ a ∨ P a) : Ex P n z m (sr_ m1 a k v) := ⟨h.1, fun b hb => ⟨(h.2 b hb).1, fun q => by
  obtain ⟨e1, e2, e3⟩ := (h.2 b hb).2 q
  refine ⟨e1, e2, (funext fun j => if_neg (fun y => ?_)).trans e3⟩
  rcases hp with hp | hp
  · omega
  · exact q (y.1 ▸ hp)⟩⟩
theorem Ex.ri (h : Ex P n z m m1) {a : Nat} {g : Nat → Int32} (hp : gt_ m ≤ a ∨ P a) : Ex P n z m (ri_ m1 a g) := ⟨h.1, fun b hb => ⟨(h.2 b hb).1, fun q => by
  obtain ⟨e1, e2, e3⟩ := (h.2 b hb).2 q
  refine ⟨(if_neg (fun y => ?_)).trans e1, e2, e3⟩
  rcases hp with hp | hp
  · omega
  · exact q (y ▸ hp)⟩⟩
theorem Ex.rr (h : Ex P n z m m1) {a : Nat} {g : Nat → Nat} (hp : gt_ m ≤ a ∨ P a) : Ex P n z m (rr_ m1 a g) := ⟨h.1, fun b hb => ⟨(h.2 b hb).1, fun q => by
  obtain ⟨e1, e2, e3⟩ := (h.2 b hb).2 q
  refine ⟨e1, e2, (if_neg (fun y => ?_)).trans e3⟩
  rcases hp with hp | hp
  · omega
  · exact q (y ▸ hp)⟩⟩
theorem Ex.of {Q : Nat → Nat → Prop} (h : Fr Q m m1) (hp : ∀ a k, Q a k → P a) : Ex P 0 0 m m1 := by
  obtain ⟨⟨a1, a2, a3, a4, a5⟩, b1, b2, b3, _⟩ := h
  exact ⟨⟨by omega, by omega, by omega, a5⟩, fun a _ => ⟨congrFun a1 a, fun q => ⟨funext fun k => b1 a k (fun y => q (hp a k y)), funext fun k => b2 a k (fun y => q (hp a k y)), funext fun k => b3 a k (fun y => q (hp a k y))⟩⟩⟩
theorem gk_alo (m : am_M) (k : Nat × Nat) (n : Nat) {a : Nat} (h : a < gt_ m) : gk_ (al_ m k n) a = gk_ m a := if_neg (by omega)
theorem gi_alo (m : am_M) (k : Nat × Nat) (n : Nat) {a : Nat} (h : a < gt_ m) : gi_ (al_ m k n) a = gi_ m a := if_neg (by omega)
theorem gl_alo (m : am_M) (k : Nat × Nat) (n : Nat) {a : Nat} (h : a < gt_ m) : gl_ (al_ m k n) a = gl_ m a := if_neg (by omega)
theorem gr_alo (m : am_M) (k : Nat × Nat) (n : Nat) {a : Nat} (h : a < gt_ m) : gr_ (al_ m k n) a = gr_ m a := if_neg (by omega)
theorem gi_alf (m : am_M) (k : Nat × Nat) (n : Nat) : gi_ (al_ m k n) (gt_ m) = fun _ => 0 := if_pos rfl
theorem cpy1 {α : Type} (f g : Nat → α) (sp dp n k : Nat) : va_cpy f g sp dp n k = if dp ≤ k ∧ k < dp + n then f (sp + (k - dp)) else g k := rfl
end X8
