/-! a new Work; cells that stay -/
section G8
variable {sa sv d x b t w o a n z : Nat} {m m' m1 : am_M} {ow : Nat → Nat} {s : Nat → Int32} {q : Nat → Int64} {l : List Int32} {S : Nat → Prop}
theorem Gs.keep2 (h : Gs S x b n z m m') (hb : SBv m b l) {r : Nat} (k1 : ¬ gk_ m r = (1, 12)) (k2 : ¬ gk_ m r = (1, 13)) (k3 : ¬ (gk_ m r).1 = 3) (hx : gk_ m x = (1, 12)) (hr : r < gt_ m) (hS : ¬ S r) : gk_ m' r = gk_ m r ∧ gi_ m' r = gi_ m r ∧ gr_ m' r = gr_ m r := by
  obtain ⟨e1, e2, e3, e4, e5⟩ := hb.kb
  have np : ¬ (r = x ∨ SBp m b r ∨ S r) := fun z => by
    rcases z with z | z | z
    · exact k1 (by rw [z]; exact hx)
    · rcases z with z | z
      · exact k2 (by rw [z]; exact e1)
      · exact k3 (by rw [z]; exact e4)
    · exact hS z
  exact ⟨h.1.k hr, h.1.i hr np, h.1.r hr np⟩
/-- a list stays where its cells stay -/
theorem LC.st {c : Nat} {L : List Nat} (h : LC m sv a c L) (hk : ∀ y, y < gt_ m → gk_ m' y = gk_ m y) (hg : gt_ m ≤ gt_ m') (hge : ge_ m' = ge_ m) (ha : gi_ m' a = gi_ m a ∧ gr_ m' a = gr_ m a) (he : gr_ m' (gr_ m a 1) = gr_ m (gr_ m a 1)) (hs : gr_ m' sv = gr_ m sv) : LC m' sv a c L := by
  obtain ⟨h1, h3, h4, h5, h6, h7, h8, h9, h10, h11, h12⟩ := h
  obtain ⟨ia, ra⟩ := ha
  exact ⟨(hk a h10).trans h1, by rw [ia]; exact h3, by rw [ia]; exact h4, by rw [ra, hk _ h11, hs]; exact h5, h6, h7, fun j hj => by rw [ra, he]; exact h8 j hj, fun y hy => ⟨el_cg (h9 y hy).1 (hk y (h9 y hy).2), Nat.lt_of_lt_of_le (h9 y hy).2 hg⟩, by omega, by rw [ra]; omega, hge.trans h12⟩
theorem LC.gs {c : Nat} {L : List Nat} (h : LC m sv a c L) (e : Gs S x b n z m m') (hb : SBv m b l) (hx : gk_ m x = (1, 12)) (ks : gk_ m sv = (0, 0)) (hsl : sv < gt_ m) (hS : ∀ y, S y → (gk_ m y).1 = 11) : LC m' sv a c L ∧ gr_ m' a = gr_ m a := by
  have h1 := h.1
  have ha : gk_ m' a = gk_ m a ∧ gi_ m' a = gi_ m a ∧ gr_ m' a = gr_ m a := e.keep2 hb (by rw [h1]; decide) (by rw [h1]; decide) (by rw [h1]; show ¬ 1 = 3; decide) hx h.2.2.2.2.2.2.2.2.1 (fun z => by have := hS a z; rw [h1] at this; exact absurd this (by show ¬ 1 = 11; decide))
  have hk : (gk_ m (gr_ m a 1)).1 = 13 ∨ (gk_ m (gr_ m a 1)).1 = 10 := by
    rcases h.2.2.2.1 with y | y
    · rw [y.2.2]
      exact .inl rfl
    · rw [y.1]
      exact .inr rfl
  have he := e.keep2 hb (r := gr_ m a 1) (fun z => by rw [z] at hk; exact absurd hk (by show ¬ (1 = 13 ∨ 1 = 10); decide)) (fun z => by rw [z] at hk; exact absurd hk (by show ¬ (1 = 13 ∨ 1 = 10); decide)) (by omega) hx h.2.2.2.2.2.2.2.2.2.1 (fun z => by have := hS _ z; omega)
  have hs := e.keep2 hb (r := sv) (by rw [ks]; decide) (by rw [ks]; decide) (by rw [ks]; show ¬ 0 = 3; decide) hx hsl (fun z => by have := hS sv z; rw [ks] at this; exact absurd this (by show ¬ 0 = 11; decide))
  exact ⟨h.st (fun y hy => e.1.k hy) e.1.gt e.1.ge ha.2 he.2.2 hs.2.2, ha.2.2⟩
theorem LC.sro {c k v : Nat} {L : List Nat} (h : LC m sv a c L) (ko : gk_ m o = (1, 11)) (ks : gk_ m sv = (0, 0)) : LC (sr_ m o k v) sv a c L := by
  have ne : ∀ y, ¬ gk_ m y = (1, 11) → gr_ (sr_ m o k v) y = gr_ m y := fun y hy => funext fun j => by
    rw [gr_sr, if_neg (fun z => hy (by rw [z.1]; exact ko))]
  refine h.st (fun _ _ => rfl) (Nat.le_refl _) rfl ⟨rfl, ne a (by rw [h.1]; decide)⟩ (ne _ ?_) (ne sv (by rw [ks]; decide))
  rcases h.2.2.2.1 with y | y
  · rw [y.2.2]
    decide
  · rw [y.1]
    exact fun z => absurd (congrArg (fun q => q.1) z) (by show ¬ 10 = 1; decide)
theorem x273 (hK : KS sa m sv) (hg : ge_ m = true) (ko : gk_ m o = (1, 11)) (hol : o < gt_ m) (h0 : 0 < gt_ m) : ∃ m', am_ca sa sv (d + 4) 273 [.ref o] m = some (.inl none, m') ∧ LC m' sv (gt_ m) 0 [] ∧ LC m' sv (gt_ m + 1) 0 [] ∧ gr_ m' o 0 = gt_ m ∧ gr_ m' o 1 = gt_ m + 1 ∧ gt_ m' = gt_ m + 2 ∧ Ex (fun y => y = o) 2 6 m m' := by
  have hsv := hK.1
  have no : ∀ y, ¬ NoP y := fun _ y => y
  obtain ⟨m1, e1, c1, x1, g1⟩ := x230 (sa := sa) (sv := sv) (d := d) (m := m) (z := 3) hg ⟨hK.2.2.2.2.2, hK.2.2.2.2.1⟩ hsv
  have ko1 : gk_ m1 o = (1, 11) := (x1.k hol).trans ko
  have ks1 : gk_ m1 sv = (0, 0) := (x1.k hsv).trans hK.2.1
  have K1 := hK.ex x1 NoP.nk
  have xo : Ex (fun y => y = o) 0 0 m1 (sr_ m1 o 0 (gt_ m)) := (Ex.refl _ _).sr (.inr rfl)
  have K2 : KS sa (sr_ m1 o 0 (gt_ m)) sv := K1.ex xo (fun y _ z => by
    rw [z, ko1]
    exact ⟨by show ¬ 1 = 0; decide, by show ¬ 1 = 8; decide, by show ¬ 1 = 9; decide⟩)
  have hg2 : ge_ (sr_ m1 o 0 (gt_ m)) = true := (x1.ge).trans hg
  have gg : gt_ (sr_ m1 o 0 (gt_ m)) = gt_ m + 1 := g1
  obtain ⟨m2, e2, c2, x2, g2⟩ := x230 (sa := sa) (sv := sv) (d := d) (m := sr_ m1 o 0 (gt_ m)) (z := 3) hg2 ⟨K2.2.2.2.2.2, K2.2.2.2.2.1⟩ K2.1
  have c1' := c1.sro (k := 0) (v := gt_ m) ko1 ks1
  obtain ⟨c1'', _, _⟩ := c1'.no x2 K2.1
  have ko2 : gk_ m2 o = (1, 11) := (x2.k (by rw [gg]; omega)).trans ko1
  have ks2 : gk_ m2 sv = (0, 0) := (x2.k K2.1).trans ks1
  have ro2 : gr_ m2 o = gr_ (sr_ m1 o 0 (gt_ m)) o := x2.r (by rw [gg]; omega) (no _)
  rw [gg] at e2 c2 g2
  refine ⟨sr_ m2 o 1 (gt_ m + 1), ?_, c1''.sro ko2 ks2, c2.sro ko2 ks2, ?_, ?_, g2, ?_⟩
  · rw [c273, b273_0, gq_pos hg, e1, c0_v, gq_pos ⟨ko1, by omega⟩, gq_pos ((x1.ge).trans hg), g1, e2, c0_v, gq_pos ⟨ko2, by omega⟩]
  · rw [gr_sr, if_neg (fun z => absurd z.2 (by decide)), ro2, gr_sr, if_pos ⟨rfl, rfl⟩]
  · rw [gr_sr, if_pos ⟨rfl, rfl⟩]
  · have y1 := x1.mono (P' := fun y => y = o) (fun _ _ z => absurd z id) (Nat.le_refl _) (Nat.le_refl _)
    exact (((y1.trans xo (fun _ _ z => z)).trans x2 (fun _ _ z => absurd z id)).sr (.inr rfl)).mono (fun _ _ z => z) (by omega) (by omega)
end G8
