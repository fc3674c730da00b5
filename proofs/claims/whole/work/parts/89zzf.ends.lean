/-! the queries' ends as outcomes of calls -/
section I89
variable {sa sv N B : Nat} {m m' : am_M} {X : TX} {v : Int32} {w : Int64} {r : Option am_R} {a b c d : Bool}
theorem TC.dx (h : TC m N X) (hf : Fr (DX N) m m') : TC m' N X := by
  obtain ⟨f, hF⟩ := h.f
  have g7 := hF.1.lt (i := 7) (by omega)
  have no : ∀ a k, oa N (f 7) ≤ a → a < oa N (f 7) + 27 → ¬ DX N a k := fun a k z1 z2 z => by
    have := z.xf
    have := oa_lo N (f 7)
    omega
  exact (TC.off h hF hf (fun a k z => ⟨z.xf.1, Or.inr z.xf.2⟩) ((h.o _ g7).fr' hf no) (hF.2.2.2.2.1.fr hf no)).1
theorem DX.kc {a k : Nat} (z : DX N a k) : KC N a k := ⟨by have := z.xf; omega, z.xf.1⟩
theorem CI.ok (h : TC m N X) (hf : Fr (DX N) m m') (e : r = some (.inl (some (.int v)), m')) : CI m N X none v r := ⟨m', hf.mono fun a k z => z.kc, h.dx hf, e⟩
theorem CI.no (h : TC m N X) (x : Nat) (v : Int32) (e : r = some (.inr x, th_ m)) : CI m N X (some x) v r := ⟨m, Fr.refl _ _, h, e⟩
theorem CJ.ok (h : TC m N X) (hf : Fr (DX N) m m') (e : r = some (.inl (some (.long w)), m')) : CJ m N X none w r := ⟨m', hf.mono fun a k z => z.kc, h.dx hf, e⟩
theorem CJ.no (h : TC m N X) (x : Nat) (w : Int64) (e : r = some (.inr x, th_ m)) : CJ m N X (some x) w r := ⟨m, Fr.refl _ _, h, e⟩
theorem CI.q1 {x1 : Nat} (h : TC m N X) (hf : Fr (DX N) m m') (e : r = bif a then some (.inl (some (.int v)), m') else some (.inr x1, th_ m)) : CI m N X (bif a then none else some x1) v r := by
  cases a with
  | false => exact CI.no h _ _ e
  | true => exact CI.ok h hf e
theorem CI.q2 {x1 x2 : Nat} (h : TC m N X) (hf : Fr (DX N) m m') (e : r = bif a then (bif b then some (.inl (some (.int v)), m') else some (.inr x2, th_ m)) else some (.inr x1, th_ m)) : CI m N X (bif a then (bif b then none else some x2) else some x1) v r := by
  cases a with
  | false => exact CI.no h _ _ e
  | true => exact CI.q1 h hf e
theorem CI.q3 {x1 x2 x3 : Nat} (h : TC m N X) (hf : Fr (DX N) m m') (e : r = bif a then (bif b then (bif c then some (.inl (some (.int v)), m') else some (.inr x3, th_ m)) else some (.inr x2, th_ m)) else some (.inr x1, th_ m)) : CI m N X (bif a then (bif b then (bif c then none else some x3) else some x2) else some x1) v r := by
  cases a with
  | false => exact CI.no h _ _ e
  | true => exact CI.q2 h hf e
theorem CI.q4 {x1 x2 x3 x4 : Nat} (h : TC m N X) (hf : Fr (DX N) m m') (e : r = bif a then (bif b then (bif c then (bif d then some (.inl (some (.int v)), m') else some (.inr x4, th_ m)) else some (.inr x3, th_ m)) else some (.inr x2, th_ m)) else some (.inr x1, th_ m)) : CI m N X (bif a then (bif b then (bif c then (bif d then none else some x4) else some x3) else some x2) else some x1) v r := by
  cases a with
  | false => exact CI.no h _ _ e
  | true => exact CI.q3 h hf e
theorem CJ.q1 {x1 : Nat} (h : TC m N X) (hf : Fr (DX N) m m') (e : r = bif a then some (.inl (some (.long w)), m') else some (.inr x1, th_ m)) : CJ m N X (bif a then none else some x1) w r := by
  cases a with
  | false => exact CJ.no h _ _ e
  | true => exact CJ.ok h hf e
theorem CJ.q2 {x1 x2 : Nat} (h : TC m N X) (hf : Fr (DX N) m m') (e : r = bif a then (bif b then some (.inl (some (.long w)), m') else some (.inr x2, th_ m)) else some (.inr x1, th_ m)) : CJ m N X (bif a then (bif b then none else some x2) else some x1) w r := by
  cases a with
  | false => exact CJ.no h _ _ e
  | true => exact CJ.q1 h hf e
theorem CJ.q3 {x1 x2 x3 : Nat} (h : TC m N X) (hf : Fr (DX N) m m') (e : r = bif a then (bif b then (bif c then some (.inl (some (.long w)), m') else some (.inr x3, th_ m)) else some (.inr x2, th_ m)) else some (.inr x1, th_ m)) : CJ m N X (bif a then (bif b then (bif c then none else some x3) else some x2) else some x1) w r := by
  cases a with
  | false => exact CJ.no h _ _ e
  | true => exact CJ.q2 h hf e
end I89
section R89
variable {sa sv N B : Nat} {m m' : am_M} {X : TX} {v v' : Int32} {w w' : Int64} {r : Option am_R} {a b c d : Bool}
theorem RX.xf {a k : Nat} (h : RX N a k) : XF N a k ∧ N + 243 ≤ a ∧ a < N + 260 ∧ ¬ (N + 244 ≤ a ∧ a ≤ N + 254) ∧ (a = N + 243 → k = 0 ∨ k = 33) := by
  unfold RX at h
  refine ⟨?_, by omega, by omega, by omega, by omega⟩
  by_cases e : a = N + 243
  · exact XF.a243 e (by omega)
  · exact XF.hi (by omega)
theorem TR.rx (h : TR m N X) (hf : Fr (RX N) m m') : TR m' N X := by
  have no : ∀ a k, ¬ (N + 255 ≤ a ∧ a < N + 260) → (a = N + 243 → ¬ k = 0 ∧ ¬ k = 33) → ¬ RX N a k := fun a k z1 z2 z => by
    have := z.xf
    omega
  have hi : ∀ a k, ¬ (N + 255 ≤ a ∧ a < N + 260) → (a = N + 243 → ¬ k = 0 ∧ ¬ k = 33) → gi_ m' a k = gi_ m a k := fun a k z1 z2 => hf.2.1 a k (no a k z1 z2)
  have hl : ∀ a k, ¬ (N + 255 ≤ a ∧ a < N + 260) → (a = N + 243 → ¬ k = 0 ∧ ¬ k = 33) → gl_ m' a k = gl_ m a k := fun a k z1 z2 => hf.2.2.1 a k (no a k z1 z2)
  obtain ⟨c, c1, c2, c3⟩ := h.h
  exact ⟨h.x.frg hf (fun a k z => z.xf.1), fun k z => (hi _ _ (by omega) (by omega)).trans (h.s k z), fun k z => (hl _ _ (by omega) (by omega)).trans (h.q k z), (hi _ _ (by omega) (by omega)).trans h.n, fun k z => (hi _ _ (by omega) (by omega)).trans (h.b k z), (hi _ _ (by omega) (by omega)).trans h.u, fun i k z z2 => (hi _ _ (by omega) (by omega)).trans (h.ps i k z z2), fun i k z z2 => (hl _ _ (by omega) (by omega)).trans (h.pq i k z z2), (hi _ _ (by omega) (by omega)).trans h.v, fun z k z2 => (hi _ _ (by omega) (by omega)).trans (h.ss z k z2), fun z k z2 => (hl _ _ (by omega) (by omega)).trans (h.sq z k z2), (hi _ _ (by omega) (by omega)).trans h.e1, (hi _ _ (by omega) (by omega)).trans h.e2, (hi _ _ (by omega) (by omega)).trans h.e3, (hi _ _ (by omega) (by omega)).trans h.r, ⟨c, c1, (hi _ _ (by omega) (by omega)).trans c2, c3⟩, fun k z => (hi _ _ (by omega) (by omega)).trans (h.rb k z)⟩
theorem RX.kr {a k : Nat} (z : RX N a k) : KR N a k := ⟨z.xf.2.1, by have := z.xf; omega, z.xf.1⟩
theorem RI.of (h : TR m N X) (c : Nat) (e : r = some (.inl (some (.int v')), si_ m (N + 243) 0 (nI c))) (hv : c = 0 → v' = v) : RI m N X c v r := ⟨_, v', KR.c0 m N (nI c), h.c0 _, e, if_pos ⟨rfl, rfl⟩, hv⟩
theorem RJ.of (h : TR m N X) (c : Nat) (e : r = some (.inl (some (.long w')), si_ m (N + 243) 0 (nI c))) (hv : c = 0 → w' = w) : RJ m N X c w r := ⟨_, w', KR.c0 m N (nI c), h.c0 _, e, if_pos ⟨rfl, rfl⟩, hv⟩
theorem RN.of (h : TR m N X) (c : Int32) (e : r = some (.inl (some (.int v)), si_ m (N + 243) 0 c)) : RN m N X v r := ⟨_, KR.c0 m N c, h.c0 _, e⟩
/-- an answer that counts only where the code is 0 -/
theorem RI.wh {c : Nat} {z : Bool} (h : TR m N X) (hf : Fr (RX N) m m') (e : r = some (.inl (some (.int (bif z then v else nI 0))), m')) (g : gi_ m' (N + 243) 0 = nI c) (hc : c = 0 → z = true) : RI m N X c v r := ⟨m', _, hf.mono fun a k z => z.kr, h.rx hf, e, g, fun z0 => by rw [hc z0]; rfl⟩
theorem RI.q1 {c1 : Nat} (h : TR m N X) (h1 : 0 < c1) (e : r = bif a then some (.inl (some (.int v)), si_ m (N + 243) 0 (nI (0))) else some (.inl (some (.int (nI 0))), si_ m (N + 243) 0 (nI c1))) : RI m N X (bif a then 0 else c1) v r := by
  cases a with
  | false => exact RI.of h _ e (fun z => absurd h1 (by rw [show c1 = 0 from z]; exact Nat.lt_irrefl 0))
  | true => exact RI.of h _ e (fun _ => rfl)
theorem RI.q2 {c1 c2 : Nat} (h : TR m N X) (h1 : 0 < c1) (h2 : 0 < c2) (e : r = bif a then (bif b then some (.inl (some (.int v)), si_ m (N + 243) 0 (nI (0))) else some (.inl (some (.int (nI 0))), si_ m (N + 243) 0 (nI c2))) else some (.inl (some (.int (nI 0))), si_ m (N + 243) 0 (nI c1))) : RI m N X (bif a then (bif b then 0 else c2) else c1) v r := by
  cases a with
  | false => exact RI.of h _ e (fun z => absurd h1 (by rw [show c1 = 0 from z]; exact Nat.lt_irrefl 0))
  | true => exact RI.q1 h h2 e
theorem RI.q3 {c1 c2 c3 : Nat} (h : TR m N X) (h1 : 0 < c1) (h2 : 0 < c2) (h3 : 0 < c3) (e : r = bif a then (bif b then (bif c then some (.inl (some (.int v)), si_ m (N + 243) 0 (nI (0))) else some (.inl (some (.int (nI 0))), si_ m (N + 243) 0 (nI c3))) else some (.inl (some (.int (nI 0))), si_ m (N + 243) 0 (nI c2))) else some (.inl (some (.int (nI 0))), si_ m (N + 243) 0 (nI c1))) : RI m N X (bif a then (bif b then (bif c then 0 else c3) else c2) else c1) v r := by
  cases a with
  | false => exact RI.of h _ e (fun z => absurd h1 (by rw [show c1 = 0 from z]; exact Nat.lt_irrefl 0))
  | true => exact RI.q2 h h2 h3 e
theorem RJ.q1 {c1 : Nat} (h : TR m N X) (h1 : 0 < c1) (e : r = bif a then some (.inl (some (.long w)), si_ m (N + 243) 0 (nI (0))) else some (.inl (some (.long (0 : Int64))), si_ m (N + 243) 0 (nI c1))) : RJ m N X (bif a then 0 else c1) w r := by
  cases a with
  | false => exact RJ.of h _ e (fun z => absurd h1 (by rw [show c1 = 0 from z]; exact Nat.lt_irrefl 0))
  | true => exact RJ.of h _ e (fun _ => rfl)
theorem RJ.q2 {c1 c2 : Nat} (h : TR m N X) (h1 : 0 < c1) (h2 : 0 < c2) (e : r = bif a then (bif b then some (.inl (some (.long w)), si_ m (N + 243) 0 (nI (0))) else some (.inl (some (.long (0 : Int64))), si_ m (N + 243) 0 (nI c2))) else some (.inl (some (.long (0 : Int64))), si_ m (N + 243) 0 (nI c1))) : RJ m N X (bif a then (bif b then 0 else c2) else c1) w r := by
  cases a with
  | false => exact RJ.of h _ e (fun z => absurd h1 (by rw [show c1 = 0 from z]; exact Nat.lt_irrefl 0))
  | true => exact RJ.q1 h h2 e
theorem RJ.q3 {c1 c2 c3 : Nat} (h : TR m N X) (h1 : 0 < c1) (h2 : 0 < c2) (h3 : 0 < c3) (e : r = bif a then (bif b then (bif c then some (.inl (some (.long w)), si_ m (N + 243) 0 (nI (0))) else some (.inl (some (.long (0 : Int64))), si_ m (N + 243) 0 (nI c3))) else some (.inl (some (.long (0 : Int64))), si_ m (N + 243) 0 (nI c2))) else some (.inl (some (.long (0 : Int64))), si_ m (N + 243) 0 (nI c1))) : RJ m N X (bif a then (bif b then (bif c then 0 else c3) else c2) else c1) w r := by
  cases a with
  | false => exact RJ.of h _ e (fun z => absurd h1 (by rw [show c1 = 0 from z]; exact Nat.lt_irrefl 0))
  | true => exact RJ.q2 h h2 h3 e
theorem cd2_0 (h : cd2_ a b = 0) : (a && b) = true := by
  cases a <;> cases b <;> first | rfl | cases h
end R89
/-! the handlers' numbers -/
section H89
variable {g : Nat → am_M → Option am_R} {E : Option Nat} {k : Nat}
theorem HC.z : HC g none 0 := Or.inl ⟨rfl, rfl⟩
theorem HC.s {e : Nat} (h0 : 0 < k) (h3 : k < 3) (h : ∀ m, g e m = some (.inl (some (.int (nI k))), m)) : HC g (some e) k := Or.inr ⟨e, rfl, h0, h3, h⟩
theorem HC.q1 {e : Nat} (h : ∀ m, g e m = some (.inl (some (.int (nI 1))), m)) (a : Bool) : HC g (bif a then none else some e) (bif a then 0 else 1) := by
  cases a
  · exact HC.s (k := 1) (by omega) (by omega) h
  · exact HC.z
theorem HC.i1 {p : Prop} [Decidable p] {e : Nat} (h : ∀ m, g e m = some (.inl (some (.int (nI 1))), m)) : HC g (if p then none else some e) (if p then 0 else 1) := by
  by_cases z : p
  · rw [if_pos z, if_pos z]; exact HC.z
  · rw [if_neg z, if_neg z]; exact HC.s (k := 1) (by omega) (by omega) h
theorem HC.q2 (h2 : ∀ m, g 2 m = some (.inl (some (.int (nI 1))), m)) (h1 : ∀ m, g 1 m = some (.inl (some (.int (nI 2))), m)) (a b : Bool) : HC g (bif a then (bif b then none else some 1) else some 2) (bif a then (bif b then 0 else 2) else 1) := by
  cases a
  · exact HC.s (k := 1) (by omega) (by omega) h2
  · cases b
    · exact HC.s (k := 2) (by omega) (by omega) h1
    · exact HC.z
theorem HC.q2s (h2 : ∀ m, g 2 m = some (.inl (some (.int (nI 1))), m)) (a b : Bool) : HC g (bif a then (bif b then none else some 2) else some 2) (bif a then (bif b then 0 else 1) else 1) := by
  cases a
  · exact HC.s (k := 1) (by omega) (by omega) h2
  · cases b
    · exact HC.s (k := 1) (by omega) (by omega) h2
    · exact HC.z
theorem HC.q3s (h2 : ∀ m, g 2 m = some (.inl (some (.int (nI 1))), m)) (a b c : Bool) : HC g (bif a then (bif b then (bif c then none else some 2) else some 2) else some 2) (bif a then (bif c then (bif b then 0 else 1) else 1) else 1) := by
  cases a
  · exact HC.s (k := 1) (by omega) (by omega) h2
  · cases b
    · cases c
      · exact HC.s (k := 1) (by omega) (by omega) h2
      · exact HC.s (k := 1) (by omega) (by omega) h2
    · cases c
      · exact HC.s (k := 1) (by omega) (by omega) h2
      · exact HC.z
theorem HC.q3 (h2 : ∀ m, g 2 m = some (.inl (some (.int (nI 1))), m)) (h1 : ∀ m, g 1 m = some (.inl (some (.int (nI 2))), m)) (a b c : Bool) : HC g (bif a then (bif b then (bif c then none else some 1) else some 2) else some 2) (bif a then (bif b then (bif c then 0 else 2) else 1) else 1) := by
  cases a
  · exact HC.s (k := 1) (by omega) (by omega) h2
  · exact HC.q2 h2 h1 b c
theorem HC.w3 (h2 : ∀ m, g 2 m = some (.inl (some (.int (nI 1))), m)) (h1 : ∀ m, g 1 m = some (.inl (some (.int (nI 2))), m)) (a b c : Bool) : HC g (bif a then (bif b then (bif c then none else some 1) else some 2) else some 2) (cd2_ (a && b) c) := by
  cases a
  · exact HC.s (k := 1) (by omega) (by omega) h2
  · exact HC.q2 h2 h1 b c
theorem HC.w4 (h2 : ∀ m, g 2 m = some (.inl (some (.int (nI 1))), m)) (h1 : ∀ m, g 1 m = some (.inl (some (.int (nI 2))), m)) (a b c d : Bool) : HC g (bif a then (bif b then (bif c then (bif d then none else some 1) else some 1) else some 2) else some 2) (cd2_ (a && b) (c && d)) := by
  cases a
  · exact HC.s (k := 1) (by omega) (by omega) h2
  · cases b
    · exact HC.s (k := 1) (by omega) (by omega) h2
    · cases c
      · exact HC.s (k := 2) (by omega) (by omega) h1
      · cases d
        · exact HC.s (k := 2) (by omega) (by omega) h1
        · exact HC.z
theorem HC.e3 (h2 : ∀ m, g 2 m = some (.inl (some (.int (nI 1))), m)) (h1 : ∀ m, g 1 m = some (.inl (some (.int (nI 2))), m)) (a b : Bool) : HC g (E3 a b) (cd2_ a b) := HC.q2 h2 h1 a b
end H89
/-! an arm from its pc on -/
section K89
variable {sa sv N b L C S n i : Nat} {m : am_M} {X : TX}
theorem LZ.scr (h : LZ N b L C S n m X) (hi : i + 6 ≤ L) (j : Nat) (hj : j < 6) (m3 : am_M) (e : gk_ m3 = gk_ m) : ((gk_ m3 b).1 = 2 ∨ (gk_ m3 b).1 = 7) ∧ in_ (nI i + nI j) (gk_ m3 b).2 := by
  have := h.l3
  rw [e, h.k, nI_add]
  exact ⟨Or.inr rfl, in_of (by omega) (by omega)⟩
def AR (sa sv N b L C S n i : Nat) (r : Option am_R) : Prop := ∃ m2 X2 p6 p7 p8, LZ N b L C S (n + 1) m2 X2 ∧ r = r411 sa sv 20 3178 [some (.ref b), some (.ref N), some (.ref (N + 243)), some (.ref (N + 266)), some (.ref (N + 267)), some (.int (nI i)), p6, p7, p8] [] m2
theorem AR.oi {r : Option am_R} {o8 : Option Value} (h : ∃ m2 X2 u1 u2, LZ N b L C S (n + 1) m2 X2 ∧ r = r411 sa sv 20 3178 [some (.ref b), some (.ref N), some (.ref (N + 243)), some (.ref (N + 266)), some (.ref (N + 267)), some (.int (nI i)), some (.int u1), some (.int u2), o8] [] m2) : AR sa sv N b L C S n i r := by
  obtain ⟨m2, X2, u1, u2, h1, h2⟩ := h
  exact ⟨m2, X2, _, _, _, h1, h2⟩
theorem AR.oj {r : Option am_R} (h : ∃ m2 X2 u1 u2, LZ N b L C S (n + 1) m2 X2 ∧ r = r411 sa sv 20 3178 [some (.ref b), some (.ref N), some (.ref (N + 243)), some (.ref (N + 266)), some (.ref (N + 267)), some (.int (nI i)), some (.int u1), some (.long u2), none] [] m2) : AR sa sv N b L C S n i r := by
  obtain ⟨m2, X2, u1, u2, h1, h2⟩ := h
  exact ⟨m2, X2, _, _, _, h1, h2⟩
theorem AR.on {r : Option am_R} {o6 o7 o8 : Option Value} (h : ∃ m2 X2, LZ N b L C S (n + 1) m2 X2 ∧ r = r411 sa sv 20 3178 [some (.ref b), some (.ref N), some (.ref (N + 243)), some (.ref (N + 266)), some (.ref (N + 267)), some (.int (nI i)), o6, o7, o8] [] m2) : AR sa sv N b L C S n i r := by
  obtain ⟨m2, X2, h1, h2⟩ := h
  exact ⟨m2, X2, _, _, _, h1, h2⟩
end K89
