/-! a script's command is read (reference), whole -/
section R89
variable {sa sv d N n B i o W : Nat} {b : Nat → Nat} {m m' : am_M} {s : Nat → Int32} {q : Nat → Int64} {σ : Er ⊕ Nat} {C : List Ins}
/-- how a command leaves the reference -/
def CmO (N n : Nat) (b : Nat → Nat) (C : List Ins) (o W : Nat) (m m' : am_M) (z : Er ⊕ (Nat × Ins)) : Prop := Fr (PRy N) m m' ∧ match z with
  | .inl e => RQ m' N b n (.inl e)
  | .inr x => RQ m' N b n (.inr x.1) ∧ CdR m' N (C ++ [x.2]) ∧ gi_ m' (N + 243) 40 = nI (W + 1) ∧ gi_ m' (N + 243) 41 = nI (o + if x.2.1 = 27 then 1 else 0)
theorem CdR.app {x : Ins} (h : CdR m N C) (hf : Fr (PRy N) m m') (hk : ∀ a k, (a = N + 260 ∨ a = N + 261 ∨ a = N + 262) → k < C.length → gi_ m' a k = gi_ m a k) (h39 : gi_ m' (N + 243) 39 = nI (C.length + 1)) (h0 : gi_ m' (N + 260) C.length = nI (rkd x.1)) (h1 : ¬ x.1 = 26 → ¬ x.1 = 6 → gi_ m' (N + 261) C.length = nI x.2.1) (h2 : x.1 = 23 ∨ x.1 = 25 ∨ x.1 = 8 → gi_ m' (N + 262) C.length = nI x.2.2) : CdR m' N (C ++ [x]) := by
  refine ⟨by rw [List.length_append, h39]; rfl, fun k y hy => ?_⟩
  by_cases e : k < C.length
  · rw [List.getElem?_append_left e] at hy
    obtain ⟨g0, g1, g2⟩ := h.2 k y hy
    exact ⟨(hk _ k (Or.inl rfl) e).trans g0, fun z z2 => (hk _ k (Or.inr (Or.inl rfl)) e).trans (g1 z z2), fun z => (hk _ k (Or.inr (Or.inr rfl)) e).trans (g2 z)⟩
  · have e2 : k = C.length := by
      rcases Nat.lt_or_ge C.length k with z | z
      · rw [List.getElem?_eq_none (by rw [List.length_append, List.length_singleton]; omega)] at hy
        cases hy
      · omega
    rw [e2, List.getElem?_append_right (Nat.le_refl _), Nat.sub_self] at hy
    have : y = x := (Option.some.inj hy).symm
    rw [this, e2]
    exact ⟨h0, h1, h2⟩
/-- what a step leaves of the code's last row -/
def RowR (m : am_M) (N L : Nat) (c : Nat) (m0 : am_M) : Prop := gi_ m (N + 260) L = nI c ∧ (∀ a k, (a = N + 260 ∨ a = N + 261 ∨ a = N + 262) → ¬ k = L → gi_ m a k = gi_ m0 a k)
theorem RowR.fr {P : Nat → Nat → Prop} {L c : Nat} {m0 : am_M} (h : RowR m N L c m0) (hf : Fr P m m') (hp : ∀ a k, P a k → a ≤ N + 259 ∨ (a = N + 261 ∧ k = L) ∨ (a = N + 262 ∧ k = L)) : RowR m' N L c m0 := ⟨(hf.2.1 _ _ (fun z => by have := hp _ _ z; omega)).trans h.1, fun a k z z2 => (hf.2.1 _ _ (fun y => by have := hp _ _ y; omega)).trans (h.2 a k z z2)⟩
theorem RH.r {a k : Nat} (h : RH N a k) : a ≤ N + 259 := by unfold RH at h; omega
/-- the end of a command -/
theorem y350_fin {c L : Nat} {m0 : am_M} (h0 : CdR m0 N C) (hL : L = C.length) (h : RQ m N b n σ) (hf : Fr (PRy N) m0 m) (hR : RowR m N L (rkd c) m0) (h39 : gi_ m (N + 243) 39 = nI C.length) (h40 : gi_ m (N + 243) 40 = nI (W + 1)) (h41 : gi_ m (N + 243) 41 = nI o) (hc : c = 8 ∨ (23 ≤ c ∧ c ≤ 27)) (z : Er ⊕ (Nat × Ins)) (hz : pst z = σ) (hx : ∀ x, z = .inr x → x.2.1 = c ∧ (¬ c = 26 → gi_ m (N + 261) L = nI x.2.2.1) ∧ (c = 23 ∨ c = 25 ∨ c = 8 → gi_ m (N + 262) L = nI x.2.2.2)) : ∃ m', r350 sa sv (d + 2) 186 [some (.ref (N + 243)), some (.int (nI (rkd c))), some (.int (nI L))] [] m = some (.inl none, m') ∧ CmO N n b C o W m0 m' z := by
  have hr5 : rkd c < 10 := by unfold rkd; (repeat' split) <;> omega
  obtain ⟨m1, g1, g2, g3⟩ := y350_186 (sa := sa) (sv := sv) (d := d) h h39 h41 (rkd c) hr5
  have f1 : Fr (PRy N) m0 m1 := hf.trans (g2.mono fun a k z => Or.inr (Or.inl ⟨z.1, by omega⟩))
  have q1 : RQ m1 N b n σ := h.y g2 (fun a k z => Or.inl ⟨z.1, by omega⟩)
  subst hL
  refine ⟨m1, g1, f1, ?_⟩
  cases z with
  | inl e =>
    rw [← hz] at q1
    exact q1
  | inr x =>
    rw [← hz] at q1 g3
    obtain ⟨x1, x2, x3⟩ := hx x rfl
    obtain ⟨e39, e41⟩ := g3 rfl
    have hR1 := hR.fr g2 (fun a k z => Or.inl (by omega))
    refine ⟨q1, h0.app f1 (fun a k z z2 => hR1.2 a k z (by omega)) e39 (by rw [x1]; exact hR1.1) (fun y _ => ?_) (fun y => ?_), (g2.2.1 _ _ (by omega)).trans h40, ?_⟩
    · exact (g2.2.1 _ _ (by omega)).trans (x2 (by rw [← x1]; exact y))
    · exact (g2.2.1 _ _ (by omega)).trans (x3 (by rw [← x1]; exact y))
    · rw [e41, x1]
      congr 2
      unfold rkd
      (repeat' split) <;> omega
/-- a number of the row is read -/
theorem y350_n {L : Nat} {A : Nat} {z : Er ⊕ (Nat × Nat)} {C0 : Option am_R} (hc : ∃ m' v, C0 = some (.inl (some (.int (v))), m') ∧ Fr (RH N) m m' ∧ RQ m' N b n (pst z) ∧ ∀ x, z = .inr x → v = nI x.2) (hA : A = N + 261 ∨ A = N + 262) : ∃ m' v, C0 = some (.inl (some (.int (v))), m') ∧ XS m' N ∧ Fr (fun a k => RH N a k ∨ (a = A ∧ k = L)) m (si_ m' A L v) ∧ RQ (si_ m' A L v) N b n (pst z) ∧ ∀ x, z = .inr x → gi_ (si_ m' A L v) A L = nI x.2 := by
  obtain ⟨m', v, a1, a2, a3, a4⟩ := hc
  have f1 : Fr (fun a k => a = A ∧ k = L) m' (si_ m' A L v) := (Fr.refl _ _).si ⟨rfl, rfl⟩
  exact ⟨m', v, a1, a3.1, (a2.mono fun a k z => Or.inl z).trans (f1.mono fun a k z => Or.inr z), a3.y f1 (fun a k z => by omega), fun x hx => (if_pos ⟨rfl, rfl⟩).trans (a4 x hx)⟩
theorem eb_ps {α β : Type} (z : Er ⊕ (Nat × α)) (f : Nat → Er ⊕ (Nat × β)) : eb z (fun x => f x.1) = eb (pst z) f := by cases z <;> rfl
theorem pst_eb {α β γ : Type} (z : Er ⊕ (Nat × α)) (f : Nat → Er ⊕ (Nat × β)) (g : Nat × α → Nat × β → γ) : pst (eb z fun x => eb (f x.1) fun y => .inr (y.1, g x y)) = pst (eb (pst z) f) := by
  cases z with
  | inl e => rfl
  | inr x =>
    show pst (eb (f x.1) _) = pst (f x.1)
    cases f x.1 <;> rfl
end R89
