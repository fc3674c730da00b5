/-! the whole state: what both sides hold between two calls -/
def TX : Type := (Nat → Int32) × (Nat → Int64) × (Nat × (Nat → Nat → Int32) × (Nat → Nat → Int64)) × (Nat × (Nat → Int32) × (Nat → Int64)) × ((Nat → Nat) × Nat) × (Int32 × Int32 × Int32) × Nat × (Nat → Nat)
def TX.s (X : TX) : Nat → Int32 := X.1
def TX.q (X : TX) : Nat → Int64 := X.2.1
def TX.u (X : TX) : Nat := X.2.2.1.1
def TX.ps (X : TX) : Nat → Nat → Int32 := X.2.2.1.2.1
def TX.pq (X : TX) : Nat → Nat → Int64 := X.2.2.1.2.2
def TX.v (X : TX) : Nat := X.2.2.2.1.1
def TX.ss (X : TX) : Nat → Int32 := X.2.2.2.1.2.1
def TX.sq (X : TX) : Nat → Int64 := X.2.2.2.1.2.2
def TX.b (X : TX) : Nat → Nat := X.2.2.2.2.1.1
def TX.n (X : TX) : Nat := X.2.2.2.2.1.2
def TX.e1 (X : TX) : Int32 := X.2.2.2.2.2.1.1
def TX.e2 (X : TX) : Int32 := X.2.2.2.2.2.1.2.1
def TX.e3 (X : TX) : Int32 := X.2.2.2.2.2.1.2.2
def TX.r (X : TX) : Nat := X.2.2.2.2.2.2.1
def TX.rb (X : TX) : Nat → Nat := X.2.2.2.2.2.2.2
def TX.wS (X : TX) (s : Nat → Int32) (q : Nat → Int64) : TX := (s, q, X.2.2)
def TX.wH (X : TX) (u : Nat) (ps : Nat → Nat → Int32) (pq : Nat → Nat → Int64) : TX := (X.1, X.2.1, (u, ps, pq), X.2.2.2)
def TX.wV (X : TX) (v : Nat) (s : Nat → Int32) (q : Nat → Int64) : TX := (X.1, X.2.1, X.2.2.1, (v, s, q), X.2.2.2.2)
def TX.wB (X : TX) (b : Nat → Nat) (n : Nat) : TX := (X.1, X.2.1, X.2.2.1, X.2.2.2.1, (b, n), X.2.2.2.2.2)
def TX.wE (X : TX) (e1 e2 e3 : Int32) : TX := (X.1, X.2.1, X.2.2.1, X.2.2.2.1, X.2.2.2.2.1, (e1, e2, e3), X.2.2.2.2.2.2)
def TX.wR (X : TX) (r : Nat) (rb : Nat → Nat) : TX := (X.1, X.2.1, X.2.2.1, X.2.2.2.1, X.2.2.2.2.1, X.2.2.2.2.2.1, r, rb)
def oa (N j : Nat) : Nat := N + 27 * (j + 1)
def SL (f : Nat → Nat) : Prop := (∀ i, i < 8 → f i < 8) ∧ (∀ i j, i < 8 → j < 8 → f i = f j → i = j) ∧ f 5 = 5
/-- where the offices lie, and what they hold -/
def TF (m : am_M) (N : Nat) (f : Nat → Nat) (X : TX) : Prop := SL f ∧ gr_ m N 13 = oa N (f 7) ∧ gr_ m N 12 = oa N (f 6) ∧ (∀ i, i < 5 → gr_ m (N + 26) i = oa N (f i)) ∧ OV m (oa N (f 7)) X.s X.q ∧ (∀ i, i < X.u → OV m (oa N (f i)) (X.ps i) (X.pq i)) ∧ (X.v = 1 → OV m (oa N 5) X.ss X.sq)
def TC (m : am_M) (N : Nat) (X : TX) : Prop :=
  (XS m N) ∧
  (QT m N) ∧
  (BY m N X.b X.n) ∧
  (gi_ m N 1 = nI X.n) ∧
  (gi_ m N 9 = nI X.u) ∧
  (X.u ≤ 5) ∧
  (gi_ m N 11 = nI X.v) ∧
  (X.v ≤ 1) ∧
  (gi_ m (N + 2) 6 = X.e1) ∧
  (gi_ m (N + 2) 7 = X.e2) ∧
  (gi_ m (N + 2) 8 = X.e3) ∧
  (gi_ m (N + 23) 2 = nI X.r) ∧
  (X.r ≤ 3000) ∧
  (∀ k, k < X.r → gi_ m (N + 24) k = nI (X.rb k)) ∧
  (∀ j, j < 8 → OS m (oa N j)) ∧
  (∃ f, TF m N f X)
theorem TC.x {m : am_M} {N : Nat} {X : TX} (h : TC m N X) : XS m N := h.1
theorem TC.q {m : am_M} {N : Nat} {X : TX} (h : TC m N X) : QT m N := h.2.1
theorem TC.b {m : am_M} {N : Nat} {X : TX} (h : TC m N X) : BY m N X.b X.n := h.2.2.1
theorem TC.n {m : am_M} {N : Nat} {X : TX} (h : TC m N X) : gi_ m N 1 = nI X.n := h.2.2.2.1
theorem TC.u {m : am_M} {N : Nat} {X : TX} (h : TC m N X) : gi_ m N 9 = nI X.u := h.2.2.2.2.1
theorem TC.u5 {m : am_M} {N : Nat} {X : TX} (h : TC m N X) : X.u ≤ 5 := h.2.2.2.2.2.1
theorem TC.v {m : am_M} {N : Nat} {X : TX} (h : TC m N X) : gi_ m N 11 = nI X.v := h.2.2.2.2.2.2.1
theorem TC.v1 {m : am_M} {N : Nat} {X : TX} (h : TC m N X) : X.v ≤ 1 := h.2.2.2.2.2.2.2.1
theorem TC.e1 {m : am_M} {N : Nat} {X : TX} (h : TC m N X) : gi_ m (N + 2) 6 = X.e1 := h.2.2.2.2.2.2.2.2.1
theorem TC.e2 {m : am_M} {N : Nat} {X : TX} (h : TC m N X) : gi_ m (N + 2) 7 = X.e2 := h.2.2.2.2.2.2.2.2.2.1
theorem TC.e3 {m : am_M} {N : Nat} {X : TX} (h : TC m N X) : gi_ m (N + 2) 8 = X.e3 := h.2.2.2.2.2.2.2.2.2.2.1
theorem TC.r {m : am_M} {N : Nat} {X : TX} (h : TC m N X) : gi_ m (N + 23) 2 = nI X.r := h.2.2.2.2.2.2.2.2.2.2.2.1
theorem TC.r3 {m : am_M} {N : Nat} {X : TX} (h : TC m N X) : X.r ≤ 3000 := h.2.2.2.2.2.2.2.2.2.2.2.2.1
theorem TC.rb {m : am_M} {N : Nat} {X : TX} (h : TC m N X) : ∀ k, k < X.r → gi_ m (N + 24) k = nI (X.rb k) := h.2.2.2.2.2.2.2.2.2.2.2.2.2.1
theorem TC.o {m : am_M} {N : Nat} {X : TX} (h : TC m N X) : ∀ j, j < 8 → OS m (oa N j) := h.2.2.2.2.2.2.2.2.2.2.2.2.2.2.1
theorem TC.f {m : am_M} {N : Nat} {X : TX} (h : TC m N X) : ∃ f, TF m N f X := h.2.2.2.2.2.2.2.2.2.2.2.2.2.2.2
def XG (B : Nat) (X : TX) : Prop := WG B X.s X.q ∧ (∀ i, i < X.u → WG B (X.ps i) (X.pq i)) ∧ (X.v = 1 → WG B X.ss X.sq)
def KC (N a k : Nat) : Prop := a < N + 243 ∧ XF N a k
section I89
variable {sa sv d N n B B' : Nat} {X : TX} {s s' : Nat → Int32} {q q' : Nat → Int64} {m m' : am_M} {P : Nat → Nat → Prop} {f : Nat → Nat}
theorem oa_lo (N j : Nat) : N + 27 ≤ oa N j := by unfold oa; omega
theorem oa_hi {j : Nat} (N : Nat) (h : j < 8) : oa N j + 27 ≤ N + 243 := by unfold oa; omega
theorem oa_ne {i j : Nat} (N : Nat) (h : ¬ i = j) : oa N i + 27 ≤ oa N j ∨ oa N j + 27 ≤ oa N i := by unfold oa; omega
theorem oa_5 (N : Nat) : oa N 5 = N + 162 := rfl
theorem SL.lt (h : SL f) {i : Nat} (hi : i < 8) : f i < 8 := h.1 i hi
theorem SL.ne (h : SL f) {i j : Nat} (hi : i < 8) (hj : j < 8) (e : ¬ i = j) : ¬ f i = f j := fun z => e (h.2.1 i j hi hj z)
theorem WG.cg (h : WG B s q) (hs : ∀ k, k < 1023 → s' k = s k) (hq : ∀ k, k < 484 → q' k = q k) : WG B s' q' := ⟨h.1.cg hs hq, fun p hp => by rw [hq p (by omega)]; exact h.2 p hp⟩
theorem WG.C (h : WG B s q) : WC s := h.1.1
theorem WG.K (h : WG B s q) : WK B s := h.1.2.2.2.2.2.2.1
theorem OV.cgG {o : Nat} (h : OV m o s q) (hG : WG B s q) (hs : ∀ k, k < 1023 → s' k = s k) (hq : ∀ k, k < 484 → q' k = q k) : OV m o s' q' := h.cg hG.C hG.K hs hq
theorem KC.x {a k : Nat} (h : KC N a k) : XF N a k := h.2
/-- the reference's own numbers in place of the told ones -/
theorem TC.cg (h : TC m N X) (hG : XG B X) (hs : ∀ k, k < 1023 → s k = X.s k) (hq : ∀ k, k < 484 → q k = X.q k) : TC m N (X.wS s q) ∧ XG B (X.wS s q) := by
  obtain ⟨f, f1, f2, f3, f4, f5, f6, f7⟩ := h.f
  exact ⟨⟨h.x, h.q, h.b, h.n, h.u, h.u5, h.v, h.v1, h.e1, h.e2, h.e3, h.r, h.r3, h.rb, h.o, ⟨f, f1, f2, f3, f4, f5.cgG hG.1 hs hq, f6, f7⟩⟩, hG.1.cg hs hq, hG.2.1, hG.2.2⟩
theorem XG.mono (h : XG B X) (hb : B ≤ B') : XG B' X := ⟨h.1.mono hb, fun i hi => (h.2.1 i hi).mono hb, fun z => (h.2.2 z).mono hb⟩
end I89
