/-! the whole state: what both sides hold between two calls -/
def TX : Type := (Nat → Int32) × (Nat → Int64) × (Nat × (Nat → Nat → Int32) × (Nat → Nat → Int64)) × (Nat × (Nat → Int32) × (Nat → Int64)) × ((Nat → Nat) × Nat) × (Int32 × Int32 × Int32) × Nat × (Nat → Nat)
def TX.s (X : TX) : Nat → Int32 := X.1
def TX.q (X : TX) : Nat → Int64 := X.2.1
def TX.u (X : TX) : Nat := X.2.2.1.1
def TX.ps (X : TX) : Nat → Nat → Int32 := X.2.2.1.2.1
def TX.pq (X : TX) : Nat → Nat → Int64 := X.2.2.1.2.2
def TX.v (X : TX) : Nat := X.2.2.2.1.1
def TX.ss (X : TX) : Nat → Int32 := X.2.2.2.1.2.1
def TX.sq (X : TX) : Nat → Int64 := X.2.2.2.1.2.2
def TX.b (X : TX) : Nat → Nat := X.2.2.2.2.1.1
def TX.n (X : TX) : Nat := X.2.2.2.2.1.2
def TX.e1 (X : TX) : Int32 := X.2.2.2.2.2.1.1
def TX.e2 (X : TX) : Int32 := X.2.2.2.2.2.1.2.1
def TX.e3 (X : TX) : Int32 := X.2.2.2.2.2.1.2.2
def TX.r (X : TX) : Nat := X.2.2.2.2.2.2.1
def TX.rb (X : TX) : Nat → Nat := X.2.2.2.2.2.2.2
def TX.wS (X : TX) (s : Nat → Int32) (q : Nat → Int64) : TX := (s, q, X.2.2)
def TX.wH (X : TX) (u : Nat) (ps : Nat → Nat → Int32) (pq : Nat → Nat → Int64) : TX := (X.1, X.2.1, (u, ps, pq), X.2.2.2)
def TX.wV (X : TX) (v : Nat) (s : Nat → Int32) (q : Nat → Int64) : TX := (X.1, X.2.1, X.2.2.1, (v, s, q), X.2.2.2.2)
def TX.wB (X : TX) (b : Nat → Nat) (n : Nat) : TX := (X.1, X.2.1, X.2.2.1, X.2.2.2.1, (b, n), X.2.2.2.2.2)
def TX.wE (X : TX) (e1 e2 e3 : Int32) : TX := (X.1, X.2.1, X.2.2.1, X.2.2.2.1, X.2.2.2.2.1, (e1, e2, e3), X.2.2.2.2.2.2)
def TX.wR (X : TX) (r : Nat) (rb : Nat → Nat) : TX := (X.1, X.2.1, X.2.2.1, X.2.2.2.1, X.2.2.2.2.1, X.2.2.2.2.2.1, r, rb)
def oa (N j : Nat) : Nat := N + 27 * (j + 1)
def SL (f : Nat → Nat) : Prop := (∀ i, i < 8 → f i < 8) ∧ (∀ i j, i < 8 → j < 8 → f i = f j → i = j) ∧ f 5 = 5
/-- where the offices lie, and what they hold -/
def TF (m : am_M) (N : Nat) (f : Nat → Nat) (X : TX) : Prop := SL f ∧ gr_ m N 13 = oa N (f 7) ∧ gr_ m N 12 = oa N (f 6) ∧ (∀ i, i < 5 → gr_ m (N + 26) i = oa N (f i)) ∧ OV m (oa N (f 7)) X.s X.q ∧ (∀ i, i < X.u → OV m (oa N (f i)) (X.ps i) (X.pq i)) ∧ (X.v = 1 → OV m (oa N 5) X.ss X.sq)
def TC (m : am_M) (N : Nat) (X : TX) : Prop :=
  (XS m N) ∧
  (QT m N) ∧
  (BY m N X.b X.n) ∧
  (gi_ m N 1 = nI X.n) ∧
  (gi_ m N 9 = nI X.u) ∧
  (X.u ≤ 5) ∧
  (gi_ m N 11 = nI X.v) ∧
  (X.v ≤ 1) ∧
  (gi_ m (N + 2) 6 = X.e1) ∧
  (gi_ m (N + 2) 7 = X.e2) ∧
  (gi_ m (N + 2) 8 = X.e3) ∧
  (gi_ m (N + 23) 2 = nI X.r) ∧
  (X.r ≤ 3000) ∧
  (∀ k, k < X.r → gi_ m (N + 24) k = nI (X.rb k)) ∧
  (∀ j, j < 8 → OS m (oa N j)) ∧
  (∃ f, TF m N f X)
theorem TC.x {m : am_M} {N : Nat} {X : TX} (h : TC m N X) : XS m N := h.1
theorem TC.q {m : am_M} {N : Nat} {X : TX} (h : TC m N X) : QT m N := h.2.1
theorem TC.b {m : am_M} {N : Nat} {X : TX} (h : TC m N X) : BY m N X.b X.n := h.2.2.1
theorem TC.n {m : am_M} {N : Nat} {X : TX} (h : TC m N X) : gi_ m N 1 = nI X.n := h.2.2.2.1
theorem TC.u {m : am_M} {N : Nat} {X : TX} (h : TC m N X) : gi_ m N 9 = nI X.u := h.2.2.2.2.1
theorem TC.u5 {m : am_M} {N : Nat} {X : TX} (h : TC m N X) : X.u ≤ 5 := h.2.2.2.2.2.1
theorem TC.v {m : am_M} {N : Nat} {X : TX} (h : TC m N X) : gi_ m N 11 = nI X.v := h.2.2.2.2.2.2.1
theorem TC.v1 {m : am_M} {N : Nat} {X : TX} (h : TC m N X) : X.v ≤ 1 := h.2.2.2.2.2.2.2.1
theorem TC.e1 {m : am_M} {N : Nat} {X : TX} (h : TC m N X) : gi_ m (N + 2) 6 = X.e1 := h.2.2.2.2.2.2.2.2.1
theorem TC.e2 {m : am_M} {N : Nat} {X : TX} (h : TC m N X) : gi_ m (N + 2) 7 = X.e2 := h.2.2.2.2.2.2.2.2.2.1
theorem TC.e3 {m : am_M} {N : Nat} {X : TX} (h : TC m N X) : gi_ m (N + 2) 8 = X.e3 := h.2.2.2.2.2.2.2.2.2.2.1
theorem TC.r {m : am_M} {N : Nat} {X : TX} (h : TC m N X) : gi_ m (N + 23) 2 = nI X.r := h.2.2.2.2.2.2.2.2.2.2.2.1
theorem TC.r3 {m : am_M} {N : Nat} {X : TX} (h : TC m N X) : X.r ≤ 3000 := h.2.2.2.2.2.2.2.2.2.2.2.2.1
theorem TC.rb {m : am_M} {N : Nat} {X : TX} (h : TC m N X) : ∀ k, k < X.r → gi_ m (N + 24) k = nI (X.rb k) := h.2.2.2.2.2.2.2.2.2.2.2.2.2.1
theorem TC.o {m : am_M} {N : Nat} {X : TX} (h : TC m N X) : ∀ j, j < 8 → OS m (oa N j) := h.2.2.2.2.2.2.2.2.2.2.2.2.2.2.1
theorem TC.f {m : am_M} {N : Nat} {X : TX} (h : TC m N X) : ∃ f, TF m N f X := h.2.2.2.2.2.2.2.2.2.2.2.2.2.2.2
def TR (m : am_M) (N : Nat) (X : TX) : Prop :=
  (XS m N) ∧
  (∀ k, k < 1023 → gi_ m (N + 245) k = X.s k) ∧
  (∀ k, k < 484 → gl_ m (N + 249) k = X.q k) ∧
  (gi_ m (N + 243) 2 = nI X.n) ∧
  (∀ k, k < X.n → gi_ m (N + 244) k = nI (X.b k)) ∧
  (gi_ m (N + 243) 23 = nI X.u) ∧
  (∀ i k, i < X.u → k < 1023 → gi_ m (N + 247) (1023 * i + k) = X.ps i k) ∧
  (∀ i k, i < X.u → k < 484 → gl_ m (N + 251) (484 * i + k) = X.pq i k) ∧
  (gi_ m (N + 243) 24 = nI X.v) ∧
  (X.v = 1 → ∀ k, k < 1023 → gi_ m (N + 246) k = X.ss k) ∧
  (X.v = 1 → ∀ k, k < 484 → gl_ m (N + 250) k = X.sq k) ∧
  (gi_ m (N + 243) 11 = X.e1) ∧
  (gi_ m (N + 243) 12 = X.e2) ∧
  (gi_ m (N + 243) 13 = X.e3) ∧
  (gi_ m (N + 243) 44 = nI X.r) ∧
  (∃ c, c < 2 ∧ gi_ m (N + 243) 45 = nI c ∧ (c = 0 → X.r = 0)) ∧
  (∀ k, k < X.r → gi_ m (N + 265) k = nI (X.rb k))
theorem TR.x {m : am_M} {N : Nat} {X : TX} (h : TR m N X) : XS m N := h.1
theorem TR.s {m : am_M} {N : Nat} {X : TX} (h : TR m N X) : ∀ k, k < 1023 → gi_ m (N + 245) k = X.s k := h.2.1
theorem TR.q {m : am_M} {N : Nat} {X : TX} (h : TR m N X) : ∀ k, k < 484 → gl_ m (N + 249) k = X.q k := h.2.2.1
theorem TR.n {m : am_M} {N : Nat} {X : TX} (h : TR m N X) : gi_ m (N + 243) 2 = nI X.n := h.2.2.2.1
theorem TR.b {m : am_M} {N : Nat} {X : TX} (h : TR m N X) : ∀ k, k < X.n → gi_ m (N + 244) k = nI (X.b k) := h.2.2.2.2.1
theorem TR.u {m : am_M} {N : Nat} {X : TX} (h : TR m N X) : gi_ m (N + 243) 23 = nI X.u := h.2.2.2.2.2.1
theorem TR.ps {m : am_M} {N : Nat} {X : TX} (h : TR m N X) : ∀ i k, i < X.u → k < 1023 → gi_ m (N + 247) (1023 * i + k) = X.ps i k := h.2.2.2.2.2.2.1
theorem TR.pq {m : am_M} {N : Nat} {X : TX} (h : TR m N X) : ∀ i k, i < X.u → k < 484 → gl_ m (N + 251) (484 * i + k) = X.pq i k := h.2.2.2.2.2.2.2.1
theorem TR.v {m : am_M} {N : Nat} {X : TX} (h : TR m N X) : gi_ m (N + 243) 24 = nI X.v := h.2.2.2.2.2.2.2.2.1
theorem TR.ss {m : am_M} {N : Nat} {X : TX} (h : TR m N X) : X.v = 1 → ∀ k, k < 1023 → gi_ m (N + 246) k = X.ss k := h.2.2.2.2.2.2.2.2.2.1
theorem TR.sq {m : am_M} {N : Nat} {X : TX} (h : TR m N X) : X.v = 1 → ∀ k, k < 484 → gl_ m (N + 250) k = X.sq k := h.2.2.2.2.2.2.2.2.2.2.1
theorem TR.e1 {m : am_M} {N : Nat} {X : TX} (h : TR m N X) : gi_ m (N + 243) 11 = X.e1 := h.2.2.2.2.2.2.2.2.2.2.2.1
theorem TR.e2 {m : am_M} {N : Nat} {X : TX} (h : TR m N X) : gi_ m (N + 243) 12 = X.e2 := h.2.2.2.2.2.2.2.2.2.2.2.2.1
theorem TR.e3 {m : am_M} {N : Nat} {X : TX} (h : TR m N X) : gi_ m (N + 243) 13 = X.e3 := h.2.2.2.2.2.2.2.2.2.2.2.2.2.1
theorem TR.r {m : am_M} {N : Nat} {X : TX} (h : TR m N X) : gi_ m (N + 243) 44 = nI X.r := h.2.2.2.2.2.2.2.2.2.2.2.2.2.2.1
theorem TR.h {m : am_M} {N : Nat} {X : TX} (h : TR m N X) : ∃ c, c < 2 ∧ gi_ m (N + 243) 45 = nI c ∧ (c = 0 → X.r = 0) := h.2.2.2.2.2.2.2.2.2.2.2.2.2.2.2.1
theorem TR.rb {m : am_M} {N : Nat} {X : TX} (h : TR m N X) : ∀ k, k < X.r → gi_ m (N + 265) k = nI (X.rb k) := h.2.2.2.2.2.2.2.2.2.2.2.2.2.2.2.2
def XG (B : Nat) (X : TX) : Prop := WG B X.s X.q ∧ (∀ i, i < X.u → WG B (X.ps i) (X.pq i)) ∧ (X.v = 1 → WG B X.ss X.sq)
def KC (N a k : Nat) : Prop := a < N + 243 ∧ XF N a k
def KR (N a k : Nat) : Prop := N + 243 ≤ a ∧ a < N + 266 ∧ XF N a k
section I89
variable {sa sv d N n B B' : Nat} {X : TX} {s s' : Nat → Int32} {q q' : Nat → Int64} {m m' : am_M} {P : Nat → Nat → Prop} {f : Nat → Nat}
theorem oa_lo (N j : Nat) : N + 27 ≤ oa N j := by unfold oa; omega
theorem oa_hi {j : Nat} (N : Nat) (h : j < 8) : oa N j + 27 ≤ N + 243 := by unfold oa; omega
theorem oa_ne {i j : Nat} (N : Nat) (h : ¬ i = j) : oa N i + 27 ≤ oa N j ∨ oa N j + 27 ≤ oa N i := by unfold oa; omega
theorem oa_5 (N : Nat) : oa N 5 = N + 162 := rfl
theorem SL.lt (h : SL f) {i : Nat} (hi : i < 8) : f i < 8 := h.1 i hi
theorem SL.ne (h : SL f) {i j : Nat} (hi : i < 8) (hj : j < 8) (e : ¬ i = j) : ¬ f i = f j := fun z => e (h.2.1 i j hi hj z)
theorem WG.cg (h : WG B s q) (hs : ∀ k, k < 1023 → s' k = s k) (hq : ∀ k, k < 484 → q' k = q k) : WG B s' q' := ⟨h.1.cg hs hq, fun p hp => by rw [hq p (by omega)]; exact h.2 p hp⟩
theorem WG.C (h : WG B s q) : WC s := h.1.1
theorem WG.K (h : WG B s q) : WK B s := h.1.2.2.2.2.2.2.1
theorem OV.cgG {o : Nat} (h : OV m o s q) (hG : WG B s q) (hs : ∀ k, k < 1023 → s' k = s k) (hq : ∀ k, k < 484 → q' k = q k) : OV m o s' q' := h.cg hG.C hG.K hs hq
theorem KC.x {a k : Nat} (h : KC N a k) : XF N a k := h.2
theorem KR.x {a k : Nat} (h : KR N a k) : XF N a k := h.2.2
theorem TC.frR (h : TC m N X) (hf : Fr P m m') (hp : ∀ a k, P a k → KR N a k) : TC m' N X := by
  have hn : ∀ a k, a < N + 243 → ¬ P a k := fun a k ha z => by have := (hp a k z).1; omega
  have hi : ∀ a k, a < N + 243 → gi_ m' a k = gi_ m a k := fun a k ha => hf.2.1 a k (hn a k ha)
  have hr : ∀ a k, a < N + 243 → gr_ m' a k = gr_ m a k := fun a k ha => hf.2.2.2.1 a k (hn a k ha)
  have hO : ∀ j, j < 8 → ∀ a k, oa N j ≤ a → a < oa N j + 27 → ¬ P a k := fun j hj a k _ h2 => hn a k (by have := oa_hi N hj; omega)
  obtain ⟨f, f1, f2, f3, f4, f5, f6, f7⟩ := h.f
  exact ⟨h.x.frg hf (fun a k z => (hp a k z).2.2), h.q.fr hf (fun k => hn _ _ (by omega)), h.b.fr hf (fun k => hn _ _ (by omega)), (hi _ _ (by omega)).trans h.n, (hi _ _ (by omega)).trans h.u, h.u5, (hi _ _ (by omega)).trans h.v, h.v1, (hi _ _ (by omega)).trans h.e1, (hi _ _ (by omega)).trans h.e2, (hi _ _ (by omega)).trans h.e3, (hi _ _ (by omega)).trans h.r, h.r3, fun k hk => (hi _ _ (by omega)).trans (h.rb k hk), fun j hj => (h.o j hj).fr' hf (hO j hj), ⟨f, f1, (hr _ _ (by omega)).trans f2, (hr _ _ (by omega)).trans f3, fun i z => (hr _ _ (by omega)).trans (f4 i z), f5.fr hf (hO _ (f1.lt (by omega))), fun i z => (f6 i z).fr hf (hO _ (f1.lt (by have := h.u5; omega))), fun z => (f7 z).fr hf (hO 5 (by omega))⟩⟩
theorem TR.frC (h : TR m N X) (hf : Fr P m m') (hp : ∀ a k, P a k → XF N a k ∧ (a < N + 243 ∨ N + 266 ≤ a)) : TR m' N X := by
  have hn : ∀ a k, N + 243 ≤ a → a < N + 266 → ¬ P a k := fun a k ha hb z => by have := (hp a k z).2; omega
  have hi : ∀ a k, N + 243 ≤ a → a < N + 266 → gi_ m' a k = gi_ m a k := fun a k ha hb => hf.2.1 a k (hn a k ha hb)
  have hl : ∀ a k, N + 243 ≤ a → a < N + 266 → gl_ m' a k = gl_ m a k := fun a k ha hb => hf.2.2.1 a k (hn a k ha hb)
  obtain ⟨c, c1, c2, c3⟩ := h.h
  exact ⟨h.x.frg hf (fun a k z => (hp a k z).1), fun k z => (hi _ _ (by omega) (by omega)).trans (h.s k z), fun k z => (hl _ _ (by omega) (by omega)).trans (h.q k z), (hi _ _ (by omega) (by omega)).trans h.n, fun k z => (hi _ _ (by omega) (by omega)).trans (h.b k z), (hi _ _ (by omega) (by omega)).trans h.u, fun i k z z2 => (hi _ _ (by omega) (by omega)).trans (h.ps i k z z2), fun i k z z2 => (hl _ _ (by omega) (by omega)).trans (h.pq i k z z2), (hi _ _ (by omega) (by omega)).trans h.v, fun z k z2 => (hi _ _ (by omega) (by omega)).trans (h.ss z k z2), fun z k z2 => (hl _ _ (by omega) (by omega)).trans (h.sq z k z2), (hi _ _ (by omega) (by omega)).trans h.e1, (hi _ _ (by omega) (by omega)).trans h.e2, (hi _ _ (by omega) (by omega)).trans h.e3, (hi _ _ (by omega) (by omega)).trans h.r, ⟨c, c1, (hi _ _ (by omega) (by omega)).trans c2, c3⟩, fun k z => (hi _ _ (by omega) (by omega)).trans (h.rb k z)⟩
/-- the reference's own numbers in place of the told ones -/
theorem TC.cg (h : TC m N X) (hG : XG B X) (hs : ∀ k, k < 1023 → s k = X.s k) (hq : ∀ k, k < 484 → q k = X.q k) : TC m N (X.wS s q) ∧ XG B (X.wS s q) := by
  obtain ⟨f, f1, f2, f3, f4, f5, f6, f7⟩ := h.f
  exact ⟨⟨h.x, h.q, h.b, h.n, h.u, h.u5, h.v, h.v1, h.e1, h.e2, h.e3, h.r, h.r3, h.rb, h.o, ⟨f, f1, f2, f3, f4, f5.cgG hG.1 hs hq, f6, f7⟩⟩, hG.1.cg hs hq, hG.2.1, hG.2.2⟩
theorem XG.mono (h : XG B X) (hb : B ≤ B') : XG B' X := ⟨h.1.mono hb, fun i hi => (h.2.1 i hi).mono hb, fun z => (h.2.2 z).mono hb⟩
theorem TR.RS (h : TR m N X) (hs : X.s = gi_ m (N + 245)) (hq : X.q = gl_ m (N + 249)) : RS m N X.s X.q := ⟨h.x, hs.symm, hq.symm⟩
end I89
