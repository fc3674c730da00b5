/-! an empty office; what a call leaves of the whole state -/
def z0s : Nat → Int32 := fun _ => 0
def z0q : Nat → Int64 := fun _ => 0
section I89
variable {sa sv d N n B : Nat} {X X' : TX} {m m' : am_M} {f : Nat → Nat} {P : Nat → Nat → Prop}
theorem isN_0 {n : Nat} (h : 0 < n) : isN (z0s 0) n := ⟨0, h, rfl⟩
theorem cN_z (k : Nat) : cN z0s k = 0 := rfl
theorem WG_0 : WG 0 z0s z0q := by
  have no : ∀ {a : Nat} {p : Prop}, a < cN z0s a → p := fun {a p} h => absurd h (by rw [cN_z]; omega)
  have lv0 : ∀ p w day, lv_ z0s p w day (cN z0s 2) ≤ 100 := fun p w day => by rw [cN_z]; exact Nat.zero_le _
  refine ⟨⟨⟨isN_0 (by omega), isN_0 (by omega), isN_0 (by omega), isN_0 (by omega), isN_0 (by omega), isN_0 (by omega), fun p _ => isN_0 (by omega)⟩, ?_, ?_, ?_, ?_, ?_, ?_, ?_⟩, ?_⟩
  · refine ⟨?_, ?_, ?_, ?_, ?_, ?_, ?_, ?_, ?_, ?_, ?_, ?_, ?_, fun w _ _ => ⟨rfl, rfl⟩⟩
    all_goals intro w
    all_goals intros
    all_goals (exfalso; rename_i h; first | exact Nat.not_lt_zero _ h | (simp only [cN_z] at *; omega))
  · refine ⟨?_, ?_, ?_, ?_, ?_, ?_, lv0⟩
    all_goals intro a h
    all_goals exact absurd h (Nat.not_lt_zero _)
  · refine ⟨?_, ?_, ?_, ?_, ?_, ?_, fun a _ _ => rfl⟩
    all_goals intro a h
    all_goals exact absurd h (Nat.not_lt_zero _)
  · refine ⟨?_, ?_, ?_, ?_⟩
    all_goals intro a h
    all_goals exact absurd h (Nat.not_lt_zero _)
  · exact ⟨fun _ _ _ => rfl, fun _ _ _ _ _ => rfl, fun _ _ _ _ _ => rfl, fun _ _ _ => rfl⟩
  · exact ⟨isN_0 (by omega), rfl⟩
  · refine ⟨fun i j _ h => absurd h (Nat.not_lt_zero _), fun i j _ h => absurd h (Nat.not_lt_zero _), fun i h => absurd h (Nat.not_lt_zero _), fun i h => absurd h (Nat.not_lt_zero _)⟩
  · intro p _
    exact ⟨(by decide : (0 : Int) ≤ (0 : Int64).toInt), (by decide : (0 : Int64).toInt ≤ ((0 : Nat) : Int) * 40000000)⟩
theorem WG_z (B : Nat) : WG B z0s z0q := WG_0.mono (Nat.zero_le _)
/-- a class's state behind a call -/
theorem TC.gen (h : TC m N X) (hf : Fr P m m') (hp : ∀ a k, P a k → XF N a k ∧ ¬ a = N + 3 ∧ ¬ (a = N ∧ k = 11) ∧ ¬ a = N + 24 ∧ ¬ (a = N + 23 ∧ k = 2)) (X' : TX) (ev : X'.v = X.v) (er : X'.r = X.r) (eb : X'.rb = X.rb) (hB : BY m' N X'.b X'.n) (hn : gi_ m' N 1 = nI X'.n) (hu : gi_ m' N 9 = nI X'.u) (hu5 : X'.u ≤ 5) (h1 : gi_ m' (N + 2) 6 = X'.e1) (h2 : gi_ m' (N + 2) 7 = X'.e2) (h3 : gi_ m' (N + 2) 8 = X'.e3) (hO : ∀ j, j < 8 → OS m' (oa N j)) (hF : ∃ f, TF m' N f X') : TC m' N X' := by
  have hi : ∀ a k, ¬ P a k → gi_ m' a k = gi_ m a k := fun a k z => hf.2.1 a k z
  exact ⟨h.x.frg hf (fun a k z => (hp a k z).1), h.q.fr hf (fun k z => (hp _ _ z).2.1 rfl), hB, hn, hu, hu5, by rw [ev]; exact (hi _ _ (fun z => (hp _ _ z).2.2.1 ⟨rfl, rfl⟩)).trans h.v, by rw [ev]; exact h.v1, h1, h2, h3, by rw [er]; exact (hi _ _ (fun z => (hp _ _ z).2.2.2.2 ⟨rfl, rfl⟩)).trans h.r, by rw [er]; exact h.r3, fun k hk => by
    rw [eb]
    rw [er] at hk
    exact (hi _ _ (fun z => (hp _ _ z).2.2.2.1 rfl)).trans (h.rb k hk), hO, hF⟩
end I89
