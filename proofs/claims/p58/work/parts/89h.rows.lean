/-! a row more of a table of six columns -/
def rowU (s : Nat → Int32) (base cnt r : Nat) (f : Nat → Int32) (k : Nat) : Int32 := if k = cnt then nI (r + 1) else if base + 6 * r ≤ k ∧ k < base + 6 * r + 6 then f (k - (base + 6 * r)) else s k
def RWc (t r a k : Nat) : Prop := (a = t ∧ k = 2) ∨ (a = t + 1 ∧ r * 6 ≤ k ∧ k < r * 6 + 6)
section P89
variable {sa sv d N o B : Nat} {m m' : am_M} {s : Nat → Int32} {q : Nat → Int64} {f : Nat → Int32}
theorem TS.si {t w n k : Nat} {v : Int32} (h : TS m t w n) : TS (si_ m (t + 1) k v) t w n := ⟨h.1, (gi_si _ _ _ _ _ _).trans ((if_neg (fun z => by have := z.1; omega)).trans h.2.1), h.2.2.1, h.2.2.2⟩
theorem app6 {t n r : Nat} (hT : TS m t 6 n) (hn : n < 2 ^ 20) (hr : r * 6 + 6 ≤ n) (f : Nat → Int32) : ∃ m1 m2 m3 m4 m5 m6, (am_ca sa sv (d + 1) 128 [.ref t, .int (nI r), .int (nI 0), .int (f 0)] m = some (.inl none, m1) ∧ gk_ m1 t = (1, 8)) ∧ (am_ca sa sv (d + 1) 128 [.ref t, .int (nI r), .int (nI 1), .int (f 1)] m1 = some (.inl none, m2) ∧ gk_ m2 t = (1, 8)) ∧ (am_ca sa sv (d + 1) 128 [.ref t, .int (nI r), .int (nI 2), .int (f 2)] m2 = some (.inl none, m3) ∧ gk_ m3 t = (1, 8)) ∧ (am_ca sa sv (d + 1) 128 [.ref t, .int (nI r), .int (nI 3), .int (f 3)] m3 = some (.inl none, m4) ∧ gk_ m4 t = (1, 8)) ∧ (am_ca sa sv (d + 1) 128 [.ref t, .int (nI r), .int (nI 4), .int (f 4)] m4 = some (.inl none, m5) ∧ gk_ m5 t = (1, 8)) ∧ (am_ca sa sv (d + 1) 128 [.ref t, .int (nI r), .int (nI 5), .int (f 5)] m5 = some (.inl none, m6) ∧ gk_ m6 t = (1, 8)) ∧ gi_ m6 t 2 = gi_ m t 2 ∧ Fr (RWc t r) m (si_ m6 t 2 (nI (r + 1))) ∧ gi_ (si_ m6 t 2 (nI (r + 1))) t 2 = nI (r + 1) ∧ ∀ c, c < 6 → gi_ (si_ m6 t 2 (nI (r + 1))) (t + 1) (r * 6 + c) = f c := by
  have st : ∀ {M : am_M} (c : Nat), TS M t 6 n → c < 6 → am_ca sa sv (d + 1) 128 [.ref t, .int (nI r), .int (nI c), .int (f c)] M = some (.inl none, si_ M (t + 1) (r * 6 + c) (f c)) ∧ gk_ (si_ M (t + 1) (r * 6 + c) (f c)) t = (1, 8) := fun c hM hc => ⟨x128 (sa := sa) (sv := sv) (d := d) hM hn r c (f c) (by omega), hM.1⟩
  have fs : ∀ {M : am_M} (c : Nat), Fr (RWc t r) m M → c < 6 → Fr (RWc t r) m (si_ M (t + 1) (r * 6 + c) (f c)) := fun c hM hc => hM.si (Or.inr ⟨rfl, by omega, by omega⟩)
  refine ⟨_, _, _, _, _, _, st 0 hT (by decide), st 1 hT.si (by decide), st 2 hT.si.si (by decide), st 3 hT.si.si.si (by decide), st 4 hT.si.si.si.si (by decide), st 5 hT.si.si.si.si.si (by decide), ?_, (fs 5 (fs 4 (fs 3 (fs 2 (fs 1 (fs 0 (Fr.refl _ _) (by decide)) (by decide)) (by decide)) (by decide)) (by decide)) (by decide)).si (Or.inl ⟨rfl, rfl⟩), by rw [gi_si, if_pos ⟨rfl, rfl⟩], fun c hc => ?_⟩
  · simp (disch := omega) only [gi_si, if_neg, eq_self, true_and]
  · rw [gi_si, if_neg (by omega), gi_si, gi_si, gi_si, gi_si, gi_si, gi_si]
    rcases (by omega : c = 0 ∨ c = 1 ∨ c = 2 ∨ c = 3 ∨ c = 4 ∨ c = 5) with rfl | rfl | rfl | rfl | rfl | rfl
    · rw [if_neg (by omega), if_neg (by omega), if_neg (by omega), if_neg (by omega), if_neg (by omega), if_pos ⟨rfl, rfl⟩]
    · rw [if_neg (by omega), if_neg (by omega), if_neg (by omega), if_neg (by omega), if_pos ⟨rfl, rfl⟩]
    · rw [if_neg (by omega), if_neg (by omega), if_neg (by omega), if_pos ⟨rfl, rfl⟩]
    · rw [if_neg (by omega), if_neg (by omega), if_pos ⟨rfl, rfl⟩]
    · rw [if_neg (by omega), if_pos ⟨rfl, rfl⟩]
    · rw [if_pos ⟨rfl, rfl⟩]
def v6c (a b c d e f : Int32) : Nat → Int32
  | 0 => a
  | 1 => b
  | 2 => c
  | 3 => d
  | 4 => e
  | _ => f
theorem app6v {t n r : Nat} (hT : TS m t 6 n) (hn : n < 2 ^ 20) (hr : r * 6 + 6 ≤ n) (v0 v1 v2 v3 v4 v5 : Int32) : ∃ m1 m2 m3 m4 m5 m6, (am_ca sa sv (d + 1) 128 [.ref t, .int (nI r), .int (nI 0), .int v0] m = some (.inl none, m1) ∧ gk_ m1 t = (1, 8)) ∧ (am_ca sa sv (d + 1) 128 [.ref t, .int (nI r), .int (nI 1), .int v1] m1 = some (.inl none, m2) ∧ gk_ m2 t = (1, 8)) ∧ (am_ca sa sv (d + 1) 128 [.ref t, .int (nI r), .int (nI 2), .int v2] m2 = some (.inl none, m3) ∧ gk_ m3 t = (1, 8)) ∧ (am_ca sa sv (d + 1) 128 [.ref t, .int (nI r), .int (nI 3), .int v3] m3 = some (.inl none, m4) ∧ gk_ m4 t = (1, 8)) ∧ (am_ca sa sv (d + 1) 128 [.ref t, .int (nI r), .int (nI 4), .int v4] m4 = some (.inl none, m5) ∧ gk_ m5 t = (1, 8)) ∧ (am_ca sa sv (d + 1) 128 [.ref t, .int (nI r), .int (nI 5), .int v5] m5 = some (.inl none, m6) ∧ gk_ m6 t = (1, 8)) ∧ gi_ m6 t 2 = gi_ m t 2 ∧ Fr (RWc t r) m (si_ m6 t 2 (nI (r + 1))) ∧ gi_ (si_ m6 t 2 (nI (r + 1))) t 2 = nI (r + 1) ∧ ∀ c, c < 6 → gi_ (si_ m6 t 2 (nI (r + 1))) (t + 1) (r * 6 + c) = v6c v0 v1 v2 v3 v4 v5 c := app6 hT hn hr (v6c v0 v1 v2 v3 v4 v5)
theorem OV.as {r : Nat} (hV : OV m o s q) (hF : Fr (RWc (o + 13) r) m m') (hr : r < 16) (h2 : gi_ m' (o + 13) 2 = nI (r + 1)) (h6 : ∀ c, c < 6 → gi_ m' (o + 14) (r * 6 + c) = f c) : OV m' o (rowU s 594 2 r f) q := by
  have nI : ∀ a k, ¬ ((a = o + 13 ∧ k = 2) ∨ (a = o + 14 ∧ r * 6 ≤ k ∧ k < r * 6 + 6)) → gi_ m' a k = gi_ m a k := fun a k z => hF.2.1 _ _ (by unfold RWc; omega)
  have nL : ∀ a k, ¬ (a = o + 13 ∨ a = o + 14) → gl_ m' a k = gl_ m a k := fun a k z => hF.2.2.1 _ _ (by unfold RWc; omega)
  have hs : ∀ k, ¬ (k = 2 ∨ (594 + 6 * r ≤ k ∧ k < 594 + 6 * r + 6)) → rowU s 594 2 r f k = s k := fun k z => by
    unfold rowU
    rw [if_neg (by omega), if_neg (by omega)]
  have e5 : cN (rowU s 594 2 r f) 5 = cN s 5 := cN_cg (hs _ (by omega))
  have e6 : cN (rowU s 594 2 r f) 6 = cN s 6 := cN_cg (hs _ (by omega))
  have e7 : cN (rowU s 594 2 r f) 7 = cN s 7 := cN_cg (hs _ (by omega))
  obtain ⟨a1_, a2_, a3_, a4_, a5_, a6_, a7_, a8_, a9_, v1_, v2_, v3_, v4_, v5_, v6_, v7_, v8_, v9_, c1_, c2_, c3_, c4_, c5_, c6_, c7_, c8_, c9_, w1_⟩ := hV
  refine ⟨?_, ?_, ?_, fun k h => ?_, fun k h => ?_, fun k h => ?_, fun k h => ?_, fun k h => ?_, fun w i h1 h2 => ?_, fun w i h1 h2 => ?_, fun w k h1 h2 => ?_, fun w k h1 h2 => ?_, fun w k j h1 h2 h3 => ?_, fun w k j h1 h2 h3 => ?_, ?_, fun a c h1 h2_ => ?_, ?_, fun a c h1 h2_ => ?_, ?_, fun a c h1 h2_ => ?_, ?_, fun p h1 => ?_, fun p c h1 h2 => ?_, fun p c h1 h2 => ?_, fun p w h1 h2 => ?_, fun w h1 => ?_, fun i p c h1 h2 h3 => ?_, fun i h1 => ?_⟩
  · rw [nI _ _ (by omega), hs _ (by omega)]; exact a1_ 
  · rw [nI _ _ (by omega), hs _ (by omega)]; exact a2_ 
  · rw [nI _ _ (by omega), hs _ (by omega)]; exact a3_ 
  · rw [nL _ _ (by omega)]; exact a4_ k h
  · rw [nI _ _ (by omega), hs _ (by omega)]; exact a5_ k h
  · rw [nL _ _ (by omega)]; exact a6_ k h
  · rw [nI _ _ (by omega), hs _ (by omega)]; exact a7_ k h
  · rw [nI _ _ (by omega), hs _ (by omega)]; exact a8_ k h
  · rw [nI _ _ (by omega), hs _ (by omega)]; exact a9_ w i h1 h2
  · rw [nI _ _ (by omega), hs _ (by omega)]; exact v1_ w i h1 h2
  · rw [nI _ _ (by omega), hs _ (by omega)]; exact v2_ w k h1 h2
  · rw [nI _ _ (by omega), hs _ (by omega)]; exact v3_ w k h1 h2
  · rw [nI _ _ (by omega), hs _ (by omega)]; exact v4_ w k j h1 h2 h3
  · rw [nI _ _ (by omega), hs _ (by omega)]; exact v5_ w k j h1 h2 h3
  · rw [h2]; exact (if_pos rfl).symm
  · by_cases e : a = r
    · subst e
      rw [h6 c h2_]; unfold rowU; rw [if_neg (by omega), if_pos (by omega), show 594 + 6 * a + c - (594 + 6 * a) = c by omega]
    · rw [nI _ _ (by omega), hs _ (by omega)]; exact v7_ a c h1 h2_
  · rw [nI _ _ (by omega), hs _ (by omega)]; exact v8_ 
  · rw [nI _ _ (by omega), hs _ (by omega)]; exact v9_ a c h1 h2_
  · rw [nI _ _ (by omega), hs _ (by omega)]; exact c1_ 
  · rw [e6] at h1
    rw [nI _ _ (by omega), hs _ (by omega)]; exact c2_ a c h1 h2_
  · rw [nI _ _ (by omega), hs _ (by omega)]; exact c3_ 
  · rw [nL _ _ (by omega)]; exact c4_ p h1
  · rw [nL _ _ (by omega)]; exact c5_ p c h1 h2
  · rw [nL _ _ (by omega)]; exact c6_ p c h1 h2
  · rw [nL _ _ (by omega)]; exact c7_ p w h1 h2
  · rw [nL _ _ (by omega)]; exact c8_ w h1
  · rw [e7] at h1
    rw [e5]
    rw [nL _ _ (by omega)]; exact c9_ i p c h1 h2 h3
  · rw [e7] at h1
    rw [e5]
    rw [nI _ _ (by omega), hs _ (by omega)]; exact w1_ i h1
theorem OV.ad {r : Nat} (hV : OV m o s q) (hF : Fr (RWc (o + 15) r) m m') (hr : r < 12) (h2 : gi_ m' (o + 15) 2 = nI (r + 1)) (h6 : ∀ c, c < 6 → gi_ m' (o + 16) (r * 6 + c) = f c) : OV m' o (rowU s 690 3 r f) q := by
  have nI : ∀ a k, ¬ ((a = o + 15 ∧ k = 2) ∨ (a = o + 16 ∧ r * 6 ≤ k ∧ k < r * 6 + 6)) → gi_ m' a k = gi_ m a k := fun a k z => hF.2.1 _ _ (by unfold RWc; omega)
  have nL : ∀ a k, ¬ (a = o + 15 ∨ a = o + 16) → gl_ m' a k = gl_ m a k := fun a k z => hF.2.2.1 _ _ (by unfold RWc; omega)
  have hs : ∀ k, ¬ (k = 3 ∨ (690 + 6 * r ≤ k ∧ k < 690 + 6 * r + 6)) → rowU s 690 3 r f k = s k := fun k z => by
    unfold rowU
    rw [if_neg (by omega), if_neg (by omega)]
  have e5 : cN (rowU s 690 3 r f) 5 = cN s 5 := cN_cg (hs _ (by omega))
  have e6 : cN (rowU s 690 3 r f) 6 = cN s 6 := cN_cg (hs _ (by omega))
  have e7 : cN (rowU s 690 3 r f) 7 = cN s 7 := cN_cg (hs _ (by omega))
  obtain ⟨a1_, a2_, a3_, a4_, a5_, a6_, a7_, a8_, a9_, v1_, v2_, v3_, v4_, v5_, v6_, v7_, v8_, v9_, c1_, c2_, c3_, c4_, c5_, c6_, c7_, c8_, c9_, w1_⟩ := hV
  refine ⟨?_, ?_, ?_, fun k h => ?_, fun k h => ?_, fun k h => ?_, fun k h => ?_, fun k h => ?_, fun w i h1 h2 => ?_, fun w i h1 h2 => ?_, fun w k h1 h2 => ?_, fun w k h1 h2 => ?_, fun w k j h1 h2 h3 => ?_, fun w k j h1 h2 h3 => ?_, ?_, fun a c h1 h2_ => ?_, ?_, fun a c h1 h2_ => ?_, ?_, fun a c h1 h2_ => ?_, ?_, fun p h1 => ?_, fun p c h1 h2 => ?_, fun p c h1 h2 => ?_, fun p w h1 h2 => ?_, fun w h1 => ?_, fun i p c h1 h2 h3 => ?_, fun i h1 => ?_⟩
  · rw [nI _ _ (by omega), hs _ (by omega)]; exact a1_ 
  · rw [nI _ _ (by omega), hs _ (by omega)]; exact a2_ 
  · rw [nI _ _ (by omega), hs _ (by omega)]; exact a3_ 
  · rw [nL _ _ (by omega)]; exact a4_ k h
  · rw [nI _ _ (by omega), hs _ (by omega)]; exact a5_ k h
  · rw [nL _ _ (by omega)]; exact a6_ k h
  · rw [nI _ _ (by omega), hs _ (by omega)]; exact a7_ k h
  · rw [nI _ _ (by omega), hs _ (by omega)]; exact a8_ k h
  · rw [nI _ _ (by omega), hs _ (by omega)]; exact a9_ w i h1 h2
  · rw [nI _ _ (by omega), hs _ (by omega)]; exact v1_ w i h1 h2
  · rw [nI _ _ (by omega), hs _ (by omega)]; exact v2_ w k h1 h2
  · rw [nI _ _ (by omega), hs _ (by omega)]; exact v3_ w k h1 h2
  · rw [nI _ _ (by omega), hs _ (by omega)]; exact v4_ w k j h1 h2 h3
  · rw [nI _ _ (by omega), hs _ (by omega)]; exact v5_ w k j h1 h2 h3
  · rw [nI _ _ (by omega), hs _ (by omega)]; exact v6_ 
  · rw [nI _ _ (by omega), hs _ (by omega)]; exact v7_ a c h1 h2_
  · rw [h2]; exact (if_pos rfl).symm
  · by_cases e : a = r
    · subst e
      rw [h6 c h2_]; unfold rowU; rw [if_neg (by omega), if_pos (by omega), show 690 + 6 * a + c - (690 + 6 * a) = c by omega]
    · rw [nI _ _ (by omega), hs _ (by omega)]; exact v9_ a c h1 h2_
  · rw [nI _ _ (by omega), hs _ (by omega)]; exact c1_ 
  · rw [e6] at h1
    rw [nI _ _ (by omega), hs _ (by omega)]; exact c2_ a c h1 h2_
  · rw [nI _ _ (by omega), hs _ (by omega)]; exact c3_ 
  · rw [nL _ _ (by omega)]; exact c4_ p h1
  · rw [nL _ _ (by omega)]; exact c5_ p c h1 h2
  · rw [nL _ _ (by omega)]; exact c6_ p c h1 h2
  · rw [nL _ _ (by omega)]; exact c7_ p w h1 h2
  · rw [nL _ _ (by omega)]; exact c8_ w h1
  · rw [e7] at h1
    rw [e5]
    rw [nL _ _ (by omega)]; exact c9_ i p c h1 h2 h3
  · rw [e7] at h1
    rw [e5]
    rw [nI _ _ (by omega), hs _ (by omega)]; exact w1_ i h1
end P89
