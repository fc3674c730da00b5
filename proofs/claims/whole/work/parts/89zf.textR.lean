/-! a text is read, a text amends (reference) -/
section R89
variable {sa sv d N n B : Nat} {X : TX} {b : Nat → Nat} {m m' : am_M} {σ : Er ⊕ Nat} {s a : Nat → Int32} {q c : Nat → Int64}
def PT (N a k : Nat) : Prop := a = N + 245 ∨ a = N + 248 ∨ a = N + 249 ∨ a = N + 252 ∨ a = N + 253 ∨ a = N + 254 ∨ (a = N + 243 ∧ (k = 0 ∨ (2 ≤ k ∧ k ≤ 14) ∨ k = 27 ∨ k = 42))
theorem PT.x {a k : Nat} (h : PT N a k) : XF N a k := by
  have h2 : N + 243 < a ∨ (a = N + 243 ∧ (k = 0 ∨ (2 ≤ k ∧ k ≤ 14) ∨ k = 27 ∨ k = 42)) := by unfold PT at h; omega
  rcases h2 with h | h
  · exact XF.hi h
  · exact XF.a243 h.1 (by have := h.2; omega)
theorem PT.k {a k : Nat} (h : PT N a k) : KR N a k := ⟨by unfold PT at h; omega, by unfold PT at h; omega, h.x⟩
theorem PT.g {a k : Nat} (h : PT N a k) : XF N a k ∧ ¬ a = N + 244 ∧ ¬ a = N + 246 ∧ ¬ a = N + 247 ∧ ¬ a = N + 250 ∧ ¬ a = N + 251 ∧ ¬ a = N + 265 ∧ ¬ (a = N + 243 ∧ (k = 23 ∨ k = 24 ∨ k = 44 ∨ k = 45)) := by
  refine ⟨h.x, ?_⟩
  unfold PT at h
  omega
theorem RWr.pt {a k : Nat} (h : RWr N a k) : PT N a k := by
  unfold RWr RSh RH at h
  unfold PT
  omega
theorem RWr.r {a k : Nat} (h : RWr N a k) : ¬ a = N + 248 ∧ ¬ a = N + 252 := by
  unfold RWr RSh RH at h
  omega
theorem RK.k {a k : Nat} (h : RK N a k) : KR N a k := ⟨by unfold RK at h; omega, by unfold RK at h; omega, h.x⟩
theorem TR.fresh (h : TR m N X) : TR (si_ m (N + 243) 23 (nI 0)) N (X.wH 0 X.ps X.pq) := by
  have hf : Fr (fun a k => a = N + 243 ∧ k = 23) m (si_ m (N + 243) 23 (nI 0)) := (Fr.refl _ _).si ⟨rfl, rfl⟩
  have hi : ∀ a k, ¬ (a = N + 243 ∧ k = 23) → gi_ (si_ m (N + 243) 23 (nI 0)) a k = gi_ m a k := fun a k z => hf.2.1 a k z
  obtain ⟨e, e1, e2, e3⟩ := h.h
  exact ⟨h.x.frg hf (fun a k z => XF.a243 z.1 (by omega)), fun k z => (hi _ _ (by omega)).trans (h.s k z), h.q, (hi _ _ (by omega)).trans h.n, fun k z => (hi _ _ (by omega)).trans (h.b k z), by rw [gi_si, if_pos ⟨rfl, rfl⟩]; rfl, fun i k z => absurd z (Nat.not_lt_zero _), fun i k z => absurd z (Nat.not_lt_zero _), (hi _ _ (by omega)).trans h.v, fun z k z2 => (hi _ _ (by omega)).trans (h.ss z k z2), h.sq, (hi _ _ (by omega)).trans h.e1, (hi _ _ (by omega)).trans h.e2, (hi _ _ (by omega)).trans h.e3, (hi _ _ (by omega)).trans h.r, ⟨e, e1, (hi _ _ (by omega)).trans e2, e3⟩, fun k z => (hi _ _ (by omega)).trans (h.rb k z)⟩
/-- what lies aside is kept -/
theorem TR.keep (h : TR m N X) (hu5 : X.u ≤ 5) (ha : ∀ k, k < 1023 → gi_ m (N + 248) k = a k) (hc : ∀ k, k < 484 → gl_ m (N + 252) k = c k) : ∃ m', am_ca sa sv (d + 1) 251 [.ref (N + 243)] m = some (.inl none, m') ∧ Fr (RK N) m m' ∧ TR m' N (X.wH (min X.u 4 + 1) (fun i => if i < min X.u 4 then X.ps (i + (X.u - min X.u 4)) else a) (fun i => if i < min X.u 4 then X.pq (i + (X.u - min X.u 4)) else c)) := by
  obtain ⟨m', g1, g2, g3, g4, g5, g6, g7⟩ := y251 (sa := sa) (sv := sv) (d := d) h.x X.u hu5 h.u
  have hi : ∀ a k, ¬ RK N a k → gi_ m' a k = gi_ m a k := fun a k z => g2.2.1 a k z
  have hl : ∀ a k, ¬ RK N a k → gl_ m' a k = gl_ m a k := fun a k z => g2.2.2.1 a k z
  obtain ⟨e, e1, e2, e3⟩ := h.h
  refine ⟨m', g1, g2, ⟨h.x.frg g2 (fun a k z => z.x), fun k z => (hi _ _ (by unfold RK; omega)).trans (h.s k z), fun k z => (hl _ _ (by unfold RK; omega)).trans (h.q k z), (hi _ _ (by unfold RK; omega)).trans h.n, fun k z => (hi _ _ (by unfold RK; omega)).trans (h.b k z), g3, fun i k z z2 => ?_, fun i k z z2 => ?_, (hi _ _ (by unfold RK; omega)).trans h.v, fun z k z2 => (hi _ _ (by unfold RK; omega)).trans (h.ss z k z2), fun z k z2 => (hl _ _ (by unfold RK; omega)).trans (h.sq z k z2), (hi _ _ (by unfold RK; omega)).trans h.e1, (hi _ _ (by unfold RK; omega)).trans h.e2, (hi _ _ (by unfold RK; omega)).trans h.e3, (hi _ _ (by unfold RK; omega)).trans h.r, ⟨e, e1, (hi _ _ (by unfold RK; omega)).trans e2, e3⟩, fun k z => (hi _ _ (by unfold RK; omega)).trans (h.rb k z)⟩⟩
  · have z' : i < min X.u 4 + 1 := z
    show gi_ m' (N + 247) (1023 * i + k) = (if i < min X.u 4 then X.ps (i + (X.u - min X.u 4)) else a) k
    by_cases e : i < min X.u 4
    · rw [if_pos e, g4 i k e z2]
      exact h.ps _ k (by omega) z2
    · rw [if_neg e, show i = min X.u 4 by omega, g6 k z2]
      exact ha k z2
  · have z' : i < min X.u 4 + 1 := z
    show gl_ m' (N + 251) (484 * i + k) = (if i < min X.u 4 then X.pq (i + (X.u - min X.u 4)) else c) k
    by_cases e : i < min X.u 4
    · rw [if_pos e, g5 i k e z2]
      exact h.pq _ k (by omega) z2
    · rw [if_neg e, show i = min X.u 4 by omega, g7 k z2]
      exact hc k z2
theorem RQ.pf {P : Nat → Nat → Prop} (h : RQ m N b n σ) (hf : Fr P m m') (hp : ∀ a k, P a k → N + 244 < a ∨ (a = N + 243 ∧ k = 42)) : RQ m' N b n σ := h.fr hf (fun a k z => by
  have h1 := hp a k z
  refine ⟨?_, by omega, by omega⟩
  rcases h1 with z | z
  · exact XF.hi (by omega)
  · exact XF.a243 z.1 (by omega))
/-- the text is refused: all comes back -/
theorem y244_e (hX0 : TR m N X) {m5 : am_M} (hf : Fr (PT N) m m5) {e : Er} (h : RQ m5 N b n (.inl e)) (h2 : gi_ m5 (N + 243) 2 = nI 0) (ha : ∀ k, k < 1023 → gi_ m5 (N + 248) k = X.s k) (hc : ∀ k, k < 484 → gl_ m5 (N + 252) k = X.q k) : ∃ m6 m7, am_ca sa sv (d + 8) 244 [.ref (N + 243)] m5 = some (.inl (some (.int (nI 0))), m6) ∧ XS m6 N ∧ am_ca sa sv (d + 8) 250 [.ref (N + 243)] m6 = some (.inl none, m7) ∧ Fr (KR N) m m7 ∧ gi_ m7 (N + 243) 0 = nI 1 ∧ TR m7 N ((X.wB X.b 0).wE (nI e.1) (nI e.2.1) (nI e.2.2)) := by
  have g := y244 (sa := sa) (sv := sv) (d := d + 5) h
  have f6 : Fr (fun a k => a = N + 243 ∧ (k = 0 ∨ (11 ≤ k ∧ k ≤ 13))) m5 (si_ (m244 m5 N (nI e.1) (nI e.2.1) (nI e.2.2)) (N + 243) 0 (nI 1)) := Fr.si ((m244_fr _ _ _ _ _).mono fun a k z => ⟨z.1, Or.inr z.2⟩) ⟨rfl, Or.inl rfl⟩
  have hX6 : XS (si_ (m244 m5 N (nI e.1) (nI e.2.1) (nI e.2.2)) (N + 243) 0 (nI 1)) N := h.1.frg f6 (fun a k z => XF.a243 z.1 (by have := z.2; omega))
  obtain ⟨m7, k1, k2, k3, k4⟩ := y250 (sa := sa) (sv := sv) (d := d + 7) hX6
  have k243 : ∀ k, gi_ m7 (N + 243) k = gi_ (si_ (m244 m5 N (nI e.1) (nI e.2.1) (nI e.2.2)) (N + 243) 0 (nI 1)) (N + 243) k := fun k => k2.2.1 _ _ (by unfold RB; omega)
  have hfA : Fr (PT N) m m7 := (hf.trans (f6.mono fun a k z => by unfold PT; have := z.1; have := z.2; omega)).trans (k2.mono fun a k z => by unfold RB at z; unfold PT; omega)
  refine ⟨_, m7, g, hX6, k1, hfA.mono (fun a k z => z.k), ?_, TR.gen hX0 hfA (fun a k z => z.g) _ (fun k hk => ?_) (fun k hk => ?_) ?_ (Nat.zero_le _) rfl ?_ ?_ ?_ rfl rfl rfl rfl rfl rfl rfl rfl⟩
  · rw [k243, gi_si, if_pos ⟨rfl, rfl⟩]
  · rw [k3 k, if_pos hk]
    exact (f6.2.1 _ _ (by omega)).trans (ha k hk)
  · rw [k4 k, if_pos hk]
    exact (f6.2.2.1 _ _ (by omega)).trans (hc k hk)
  · rw [k243]
    exact (f6.2.1 _ _ (by omega)).trans h2
  · rw [k243]
    simp [gi_si, m244]
    rfl
  · rw [k243]
    simp [gi_si, m244]
    rfl
  · rw [k243]
    simp [gi_si, m244]
    rfl
/-- the text stands -/
theorem y244_g (hX0 : TR m N X) {m5 : am_M} (hf : Fr (PT N) m m5) {i : Nat} (h : RQ m5 N b n (.inr i)) (h2 : gi_ m5 (N + 243) 2 = nI 0) (hR : RS m5 N s q) : ∃ m6, am_ca sa sv (d + 8) 244 [.ref (N + 243)] m5 = some (.inl (some (.int (nI 1))), m6) ∧ Fr (PT N) m m6 ∧ gi_ m6 (N + 243) 0 = nI 0 ∧ TR m6 N ((X157 X).wS s q) ∧ Fr (fun a k => a = N + 243 ∧ (k = 0 ∨ (11 ≤ k ∧ k ≤ 13))) m5 m6 ∧ gi_ m6 (N + 245) 1 = s 1 := by
  have g := y244 (sa := sa) (sv := sv) (d := d + 5) h
  have f6 : Fr (fun a k => a = N + 243 ∧ (k = 0 ∨ (11 ≤ k ∧ k ≤ 13))) m5 (si_ (m244 m5 N (nI 0) (-1) (nI 0)) (N + 243) 0 (nI 0)) := Fr.si ((m244_fr _ _ _ _ _).mono fun a k z => ⟨z.1, Or.inr z.2⟩) ⟨rfl, Or.inl rfl⟩
  have hfA : Fr (PT N) m (si_ (m244 m5 N (nI 0) (-1) (nI 0)) (N + 243) 0 (nI 0)) := hf.trans (f6.mono fun a k z => by unfold PT; have := z.1; have := z.2; omega)
  refine ⟨_, g, hfA, by rw [gi_si, if_pos ⟨rfl, rfl⟩], TR.gen hX0 hfA (fun a k z => z.g) _ (fun k hk => ?_) (fun k hk => ?_) ?_ (Nat.zero_le _) rfl ?_ ?_ ?_ rfl rfl rfl rfl rfl rfl rfl rfl, f6, ?_⟩
  · exact (f6.2.1 _ _ (by omega)).trans (congrFun hR.2.1 k)
  · exact (f6.2.2.1 _ _ (by omega)).trans (congrFun hR.2.2 k)
  · exact (f6.2.1 _ _ (by omega)).trans h2
  · simp [gi_si, m244]
    rfl
  · simp [gi_si, m244]
    rfl
  · simp [gi_si, m244]
    rfl
  · exact (f6.2.1 _ _ (by omega)).trans (congrFun hR.2.1 1)
end R89
