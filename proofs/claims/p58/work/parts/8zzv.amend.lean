/-! amends: an advance more for both -/
section J8
variable {sa sv d N x b n n' z z' B v p u a c r : Nat} {m M m1 m2 m' : am_M} {ow ow' ow2 : Nat → Nat} {X : TX} {s s' : Nat → Int32} {q : Nat → Int64} {P : Nat → Prop}
theorem KT.re (k : KT M sv ow) (h : KS sa M sv) (kr : (gk_ M r).1 = 2) (e : ∀ y, y < gt_ M → ¬ y = r → ow' y = ow y) : KT M sv ow' := by
  obtain ⟨h1, h2, h3, h4, h5, h6⟩ := h
  obtain ⟨k1, k2, k3⟩ := k
  have no : ∀ y, (gk_ M y).1 = 0 ∨ (gk_ M y).1 = 8 ∨ (gk_ M y).1 = 9 → ¬ y = r := fun y hy z => by
    rw [z, kr] at hy; omega
  refine ⟨by rw [e _ h1 (no _ (.inl (by rw [h2])))]; exact k1, fun i hi => ?_, fun i hi => ?_⟩
  · obtain ⟨a1, a2, a3, a4, a5, a6⟩ := h3 i hi
    rw [e _ a1 (no _ (.inr (.inl (by rw [a2])))), e _ a4 (no _ (.inr (.inr (by rw [a5]))))]
    exact k2 i hi
  · obtain ⟨a1, a2, a3⟩ := h4 i hi
    rw [e _ a1 (no _ (.inr (.inr (by rw [a2]))))]
    exact k3 i hi
/-- the World has an advance more -/
theorem JT.rad (h : JT sa m sv N x ow B X s q) (hl : LM s q) (hC : WC s) (hW : WW s) (h10 : cN s 3 < 10) {f : Nat → Int32} : ∃ m1 ow', am_ca sa sv (d + 6) 238 [.ref (gr_ m x 5), .ref (gt_ m)] (si_ (si_ (si_ (si_ (si_ (si_ (al_ m (2, 6) 6) (gt_ m) 0 (f 0)) (gt_ m) 1 (f 1)) (gt_ m) 2 (f 2)) (gt_ m) 3 (f 3)) (gt_ m) 4 (f 4)) (gt_ m) 5 (f 5)) = some (.inl (some (.int (nI 1))), m1) ∧ JT sa m1 sv N x ow' B X (rowU s 690 3 (cN s 3) f) q ∧ Ex (fun _ => True) 2 166 m m1 := by
  obtain ⟨xa, k2, v2, g2⟩ := six_ m f
  generalize si_ (si_ (si_ (si_ (si_ (si_ (al_ m (2, 6) 6) (gt_ m) 0 (f 0)) (gt_ m) 1 (f 1)) (gt_ m) 2 (f 2)) (gt_ m) 3 (f 3)) (gt_ m) 4 (f 4)) (gt_ m) 5 (f 5) = M2 at xa k2 v2 g2 ⊢
  have top := h.top
  have n0 := h.n0
  have no : ∀ y, ¬ NoP y := fun _ y => y
  obtain ⟨O, hO⟩ : ∃ O : Nat → Nat, ∀ y, O y = if y < gt_ m then ow y else 300 := ⟨_, fun _ => rfl⟩
  have j2 := h.xs (ow' := O) hl xa (fun _ _ z => absurd z id) NoP.nk (fun y hy => (hO y).trans (if_pos hy))
  have or3 : 300 ≤ O (gt_ m) := by
    rw [hO, if_neg (Nat.lt_irrefl _)]; exact Nat.le_refl _
  obtain ⟨M3, ow3, e3, W3, k5, z5, o1, o2, x3, x3p⟩ := j2.ws.rad (sa := sa) (d := d) hC hW hl.g j2.ks.2.1 j2.ks.1 (nn := cN s 3) rfl (by omega) (by have := hl.a; omega) (r := gt_ m) (f := f) k2 (by omega) or3 (by omega) v2
  have rx : gr_ M2 x = gr_ m x := xa.r h.ws.x.2.1 (no _)
  rw [rx] at e3
  have x3' := x3
  rw [rx] at x3 x3p
  have kk := j2.ks.tag j2.s3 (ow' := fun y => if y = gt_ m then O y else ow3 y) x3 (fun y hy => by
    by_cases c : y = gt_ m
    · exact if_pos c
    · exact (if_neg c).trans (o1 y hy c)) (fun a ha hk _ y => by
    rcases (x3p a ha y).2 with e | e
    · rw [e] at hk; omega
    · rw [e] at hk
      exact absurd hk (by show ¬ (1 = 0 ∨ 1 = 8 ∨ 1 = 9); decide))
  have kr3 : (gk_ M3 (gt_ m)).1 = 2 := by rw [x3.k (by omega), k2]
  have kt := kk.2.re (ow' := ow3) kk.1 kr3 (fun y _ hy => (if_neg hy).symm)
  refine ⟨M3, ow3, e3, ⟨j2.tc.sm fun a z1 z2 => ?_, j2.xg, j2.bb, W3, kk.1, fun a z1 z2 => ?_, kt, j2.n0, x3.ge.trans j2.ge⟩, ((xa.mono (P' := fun _ => True) (fun _ _ _ => trivial) (Nat.le_refl _) (Nat.le_refl _)).trans x3 (fun _ _ _ => trivial)).mono (fun _ _ z => z) (by omega) (by omega)⟩
  · obtain ⟨y1, y2, y3⟩ := j2.kc a z1 z2
    have np : ¬ LPa M2 (gr_ m x 5) a := fun y => by
      rcases (x3p a y1 y).1 with e | e | e
      · omega
      · omega
      · omega
    exact ⟨x3.k y1, x3.i y1 np, x3.l y1 np, x3.r y1 np⟩
  · obtain ⟨y1, y2, y3⟩ := j2.kc a z1 z2
    rw [o1 a y1 (by omega), x3.k y1]
    exact ⟨Nat.lt_of_lt_of_le y1 x3.gt, y2, y3⟩
end J8
