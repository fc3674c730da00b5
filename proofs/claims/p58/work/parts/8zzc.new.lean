/-! a new World -/
section G8
variable {sa sv d x a n z : Nat} {m m' : am_M} {ow : Nat → Nat}
/-- a field of the World gets what is new -/
def Sf (x f c z : Nat) (m m' : am_M) : Prop := Ex (fun y => y = x) c z m m' ∧ gt_ m' = gt_ m + c ∧ (∀ f', gr_ m' x f' = if f' = f then gt_ m else gr_ m x f') ∧ gi_ m' x = gi_ m x
theorem LC.xx {c : Nat} {L : List Nat} (h : LC m sv a c L) (e : Ex (fun y => y = x) n z m m') (kx : gk_ m x = (1, 12)) (ks : gk_ m sv = (0, 0)) (hsl : sv < gt_ m) : LC m' sv a c L := by
  have na : ¬ a = x := fun z => by
    have := h.1
    rw [z, kx] at this
    exact absurd this (by decide)
  have ns : ¬ sv = x := fun z => by
    rw [z, kx] at ks
    exact absurd (congrArg (fun q => q.1) ks) (by show ¬ 1 = 0; decide)
  have nv : ¬ gr_ m a 1 = x := fun z => by
    rcases h.2.2.2.1 with y | y
    · have := y.2.2
      rw [z, kx] at this
      exact absurd (congrArg (fun q => q.1) this) (by show ¬ 1 = 13; decide)
    · have := y.1
      rw [z, kx] at this
      exact absurd (congrArg (fun q => q.1) this) (by show ¬ 1 = 10; decide)
  have ha := h.2.2.2.2.2.2.2.2.1
  exact h.st (fun y hy => e.k hy) e.gt e.ge ⟨e.i ha na, e.r ha na⟩ (e.r h.2.2.2.2.2.2.2.2.2.1 nv) (e.r hsl ns)
theorem KS.xx (h : KS sa m sv) (e : Ex (fun y => y = x) n z m m') (kx : gk_ m x = (1, 12)) : KS sa m' sv := h.ex e (fun y _ z => by
  rw [z, kx]
  exact ⟨by show ¬ 1 = 0; decide, by show ¬ 1 = 8; decide, by show ¬ 1 = 9; decide⟩)
theorem Sf.of {f c z : Nat} {m1 : am_M} (e : Ex NoP c z m m1) (hg : gt_ m1 = gt_ m + c) (hx : x < gt_ m) : Sf x f c z m (sr_ m1 x f (gt_ m)) := by
  have no : ∀ y, ¬ NoP y := fun _ y => y
  refine ⟨(e.mono (P' := fun y => y = x) (fun _ _ z => absurd z id) (Nat.le_refl _) (Nat.le_refl _)).sr (.inr rfl), hg, fun f' => ?_, (e.i hx (no _))⟩
  rw [gr_sr, e.r hx (no _)]
  by_cases h : f' = f
  · rw [if_pos ⟨rfl, h⟩, if_pos h]
  · rw [if_neg (fun z => h z.2), if_neg h]
/-- a new list in a field -/
theorem n_lst (hK : KS sa m sv) (hg : ge_ m = true) (kx : gk_ m x = (1, 12)) (hx : x < gt_ m) (f : Nat) : ∃ m1, am_ca sa sv (d + 3) 230 [.ref (gt_ m)] (al_ m (1, 15) 3) = some (.inl none, m1) ∧ gk_ m1 x = (1, 12) ∧ Sf x f 1 3 m (sr_ m1 x f (gt_ m)) ∧ LC (sr_ m1 x f (gt_ m)) sv (gt_ m) 0 [] := by
  obtain ⟨m1, e1, c1, x1, g1⟩ := x230 (sa := sa) (sv := sv) (d := d) (m := m) (z := 3) hg ⟨hK.2.2.2.2.2, hK.2.2.2.2.1⟩ hK.1
  have kx1 : gk_ m1 x = (1, 12) := (x1.k hx).trans kx
  have K1 := hK.ex x1 NoP.nk
  exact ⟨m1, e1, kx1, Sf.of x1 g1 hx, c1.xx (x := x) ((Ex.refl _ _).sr (.inr rfl)) kx1 K1.2.1 K1.1⟩
/-- the tags of a new World's cells, by their places -/
def tg0 (k : Nat) : Nat := if k = 0 then 0 else if k = 1 then 1 else if k = 2 then 3 else if k = 3 then 5 else if k = 4 then 9 else if k = 5 then 10 else if k = 6 then 11 else if k = 7 then 12 else if k < 18 then 20 + (k - 8) else if k = 18 then 13 else if k < 29 then 30 + (k - 19) else if k = 29 then 14 else if k < 40 then 40 + (k - 30) else if k = 40 then 7 else if k = 41 then 17 else 300
def ow0 (x y : Nat) : Nat := if y < x then 300 else tg0 (y - x)
theorem ow0_at (x k : Nat) : ow0 x (x + k) = tg0 k := by
  unfold ow0
  rw [if_neg (by omega), show x + k - x = k by omega]
theorem mu_k (m : am_M) (r k : Nat) : gk_ (mu_ m r k) (gt_ m) = (12, r) ∧ (∀ p, p < r → gk_ (mu_ m r k) (gt_ m + 1 + p) = (4, k) ∧ gl_ (mu_ m r k) (gt_ m + 1 + p) = fun _ => 0) ∧ ∀ p, p < r → gr_ (mu_ m r k) (gt_ m) p = gt_ m + 1 + p := by
  refine ⟨if_pos rfl, fun p hp => ⟨(if_neg (by omega)).trans (if_pos ⟨by omega, by omega⟩), if_pos ⟨by omega, by omega⟩⟩, fun p hp => ?_⟩
  show (if gt_ m = gt_ m then (fun j => if j < r then gt_ m + 1 + j else 0) else _ : Nat → Nat) p = _
  rw [if_pos rfl]
  exact if_pos hp
/-- a new World from its cells -/
theorem WS0 {X : Nat} {M : am_M} (kx : gk_ M X = (1, 12)) (h0 : 0 < X) (hg : gt_ M = X + 43) (I : ∀ f, f < 3 → gi_ M X f = 0) (q3 : gr_ M X 3 = X + 1) (q4 : gr_ M X 4 = X + 2) (q5 : gr_ M X 5 = X + 3) (q6 : gr_ M X 6 = X + 4) (q7 : gr_ M X 7 = X + 5) (q8 : gr_ M X 8 = X + 6) (q9 : gr_ M X 9 = X + 7) (q10 : gr_ M X 10 = X + 18) (q11 : gr_ M X 11 = X + 29) (q12 : gr_ M X 12 = X + 40) (q13 : gr_ M X 13 = X + 41) (L3 : LC M sv (X + 1) 0 []) (L4 : LC M sv (X + 2) 0 []) (L5 : LC M sv (X + 3) 0 []) (L12 : LC M sv (X + 40) 0 []) (L13 : LC M sv (X + 41) 0 []) (kn6 : gk_ M (X + 4) = (2, 10)) (in6 : gi_ M (X + 4) = fun _ => 0) (kn7 : gk_ M (X + 5) = (4, 10)) (ln7 : gl_ M (X + 5) = fun _ => 0) (kn8 : gk_ M (X + 6) = (4, 12)) (kn9 : gk_ M (X + 7) = (12, 10)) (gn9 : ∀ p, p < 10 → gr_ M (X + 7) p = X + 8 + p) (rn9 : ∀ p, p < 10 → gk_ M (X + 8 + p) = (4, 4) ∧ gl_ M (X + 8 + p) = fun _ => 0) (kn10 : gk_ M (X + 18) = (12, 10)) (gn10 : ∀ p, p < 10 → gr_ M (X + 18) p = X + 19 + p) (rn10 : ∀ p, p < 10 → gk_ M (X + 19 + p) = (4, 3) ∧ gl_ M (X + 19 + p) = fun _ => 0) (kn11 : gk_ M (X + 29) = (12, 10)) (gn11 : ∀ p, p < 10 → gr_ M (X + 29) p = X + 30 + p) (rn11 : ∀ p, p < 10 → gk_ M (X + 30 + p) = (4, 12) ∧ gl_ M (X + 30 + p) = fun _ => 0) : WS M sv X (ow0 X) z0s z0q := by
  have lw : ∀ (k t : Nat), LC M sv (X + k) 0 [] → tg0 k = t → ¬ k = 0 → LW M sv (ow0 X) (X + k) t [] := fun k t h ht hk => ⟨⟨0, h⟩, ⟨(ow0_at X k).trans ht, h.2.2.2.2.2.2.2.2.1, by omega⟩, fun hk => by
    rcases h.2.2.2.1 with y | y
    · rw [y.2.2] at hk
      exact absurd hk (by show ¬ 13 = 10; decide)
    · omega⟩
  have gw : ∀ (k u n : Nat), k + 11 ≤ 43 → gk_ M (X + k) = (12, 10) → (∀ p, p < 10 → gr_ M (X + k) p = X + (k + 1) + p) → (∀ p, p < 10 → gk_ M (X + (k + 1) + p) = (4, n) ∧ gl_ M (X + (k + 1) + p) = fun _ => 0) → (∀ p, p < 10 → tg0 (k + 1 + p) = u + p) → GW M (ow0 X) (X + k) (tg0 k) u n (fun _ _ => 0) := fun k u n hk h1 h2 h3 h4 => ⟨h1, ⟨ow0_at X k, by omega, by omega⟩, fun p hp => by
    rw [h2 p hp]
    exact ⟨(h3 p hp).1, ⟨by rw [show X + (k + 1) + p = X + (k + 1 + p) by omega, ow0_at]; exact h4 p hp, by omega, by omega⟩, fun j _ => by rw [(h3 p hp).2]⟩⟩
  have t9 : ∀ p, p < 10 → tg0 (7 + 1 + p) = 20 + p := by decide
  have t10 : ∀ p, p < 10 → tg0 (18 + 1 + p) = 30 + p := by decide
  have t11 : ∀ p, p < 10 → tg0 (29 + 1 + p) = 40 + p := by decide
  refine ⟨kx, ⟨ow0_at X 0, by omega, by omega⟩, I 0 (by omega), I 1 (by omega), I 2 (by omega), ⟨[], by rw [q3]; exact lw 1 1 L3 rfl (by omega), rfl, fun w hw => absurd hw (by show ¬ w < 0; omega)⟩, ⟨[], by rw [q4]; exact lw 2 3 L4 rfl (by omega), rfl, fun w hw => absurd hw (by show ¬ w < 0; omega)⟩, ⟨[], by rw [q5]; exact lw 3 5 L5 rfl (by omega), rfl, fun w hw => absurd hw (by show ¬ w < 0; omega)⟩, ?_, ?_, ⟨gl_ M (X + 6), ?_⟩, by rw [q9]; exact gw 7 20 4 (by omega) kn9 gn9 rn9 t9, ⟨_, by rw [q10]; exact gw 18 30 3 (by omega) kn10 gn10 rn10 t10⟩, ⟨_, by rw [q11]; exact gw 29 40 12 (by omega) kn11 gn11 rn11 t11⟩, ⟨[], by rw [q12]; exact lw 40 7 L12 rfl (by omega), rfl, fun y hy => absurd hy List.not_mem_nil⟩, ⟨[], by rw [q13]; exact lw 41 17 L13 rfl (by omega), rfl⟩⟩
  · rw [q6]
    refine ⟨kn6, ⟨ow0_at X 4, by omega, by omega⟩, fun j _ => ?_⟩
    rw [in6]
    rfl
  · rw [q7]
    refine ⟨kn7, ⟨ow0_at X 5, by omega, by omega⟩, fun j _ => ?_⟩
    rw [ln7]
    rfl
  · rw [q8]
    exact ⟨kn8, ⟨ow0_at X 6, by omega, by omega⟩, fun j _ => rfl⟩
/-- the first fields -/
def N8 (sa sv X : Nat) (M : am_M) : Prop := gk_ M X = (1, 12) ∧ KS sa M sv ∧ ge_ M = true ∧ gt_ M = X + 7 ∧ gi_ M X = (fun _ => 0) ∧ (gr_ M X 3 = X + 1 ∧ gr_ M X 4 = X + 2 ∧ gr_ M X 5 = X + 3 ∧ gr_ M X 6 = X + 4 ∧ gr_ M X 7 = X + 5 ∧ gr_ M X 8 = X + 6) ∧ (LC M sv (X + 1) 0 [] ∧ LC M sv (X + 2) 0 [] ∧ LC M sv (X + 3) 0 []) ∧ gk_ M (X + 4) = (2, 10) ∧ gi_ M (X + 4) = (fun _ => 0) ∧ gk_ M (X + 5) = (4, 10) ∧ gl_ M (X + 5) = (fun _ => 0) ∧ gk_ M (X + 6) = (4, 12)
theorem x275a {X : Nat} {M0 : am_M} (kx0 : gk_ M0 X = (1, 12)) (ix0 : gi_ M0 X = fun _ => 0) (g0 : gt_ M0 = X + 1) (K0 : KS sa M0 sv) (hg0 : ge_ M0 = true) (h0 : 0 < X) : ∃ M8, r275 sa sv (d + 3) 0 [some (.ref X)] [] M0 = r275 sa sv (d + 3) 61 [some (.ref X)] [] M8 ∧ N8 sa sv X M8 ∧ Ex (fun y => y = X) 6 41 M0 M8 := by
  have hX0 : X < gt_ M0 := by omega
  -- 3: works
  obtain ⟨N3, e3, k3, S3, c3⟩ := n_lst (sa := sa) (d := d) K0 hg0 kx0 hX0 3
  generalize hM3 : sr_ N3 X 3 (gt_ M0) = M3 at S3 c3
  have kx3 := (S3.1.k hX0).trans kx0
  have K3 := K0.xx S3.1 kx0
  have hg3 := (S3.1.ge).trans hg0
  have hX3 : X < gt_ M3 := by have := S3.2.1; omega
  -- 4: assigns
  obtain ⟨N4, e4, k4, S4, c4⟩ := n_lst (sa := sa) (d := d) K3 hg3 kx3 hX3 4
  generalize hM4 : sr_ N4 X 4 (gt_ M3) = M4 at S4 c4
  have kx4 := (S4.1.k hX3).trans kx3
  have K4 := K3.xx S4.1 kx3
  have hg4 := (S4.1.ge).trans hg3
  have hX4 : X < gt_ M4 := by have := S4.2.1; omega
  -- 5: advances
  obtain ⟨N5, e5, k5, S5, c5⟩ := n_lst (sa := sa) (d := d) K4 hg4 kx4 hX4 5
  generalize hM5 : sr_ N5 X 5 (gt_ M4) = M5 at S5 c5
  have kx5 := (S5.1.k hX4).trans kx4
  have K5 := K4.xx S5.1 kx4
  have hg5 := (S5.1.ge).trans hg4
  have hX5 : X < gt_ M5 := by have := S5.2.1; omega
  -- 6: least
  have kx5a : gk_ (al_ M5 (2, 10) 10) X = (1, 12) := (gk_alo _ _ _ hX5).trans kx5
  have S6 := Sf.of (x := X) (f := 6) (Ex.al (P := NoP) M5 (2, 10) 10) rfl hX5
  have kn6 : gk_ (sr_ (al_ M5 (2, 10) 10) X 6 (gt_ M5)) (gt_ M5) = (2, 10) := gk_al M5 (2, 10) 10
  have in6 : gi_ (sr_ (al_ M5 (2, 10) 10) X 6 (gt_ M5)) (gt_ M5) = fun _ => 0 := gi_alf M5 (2, 10) 10
  generalize hM6 : sr_ (al_ M5 (2, 10) 10) X 6 (gt_ M5) = M6 at S6 kn6 in6
  have kx6 := (S6.1.k hX5).trans kx5
  have K6 := K5.xx S6.1 kx5
  have hg6 := (S6.1.ge).trans hg5
  have hX6 : X < gt_ M6 := by have := S6.2.1; omega
  -- 7: balance
  have kx6a : gk_ (al_ M6 (4, 10) 10) X = (1, 12) := (gk_alo _ _ _ hX6).trans kx6
  have S7 := Sf.of (x := X) (f := 7) (Ex.al (P := NoP) M6 (4, 10) 10) rfl hX6
  have kn7 : gk_ (sr_ (al_ M6 (4, 10) 10) X 7 (gt_ M6)) (gt_ M6) = (4, 10) := gk_al M6 (4, 10) 10
  have ln7 : gl_ (sr_ (al_ M6 (4, 10) 10) X 7 (gt_ M6)) (gt_ M6) = fun _ => 0 := if_pos rfl
  generalize hM7 : sr_ (al_ M6 (4, 10) 10) X 7 (gt_ M6) = M7 at S7 kn7 ln7
  have kx7 := (S7.1.k hX6).trans kx6
  have K7 := K6.xx S7.1 kx6
  have hg7 := (S7.1.ge).trans hg6
  have hX7 : X < gt_ M7 := by have := S7.2.1; omega
  -- 8: came
  have kx7a : gk_ (al_ M7 (4, 12) 12) X = (1, 12) := (gk_alo _ _ _ hX7).trans kx7
  have S8 := Sf.of (x := X) (f := 8) (Ex.al (P := NoP) M7 (4, 12) 12) rfl hX7
  have kn8 : gk_ (sr_ (al_ M7 (4, 12) 12) X 8 (gt_ M7)) (gt_ M7) = (4, 12) := gk_al M7 (4, 12) 12
  generalize hM8 : sr_ (al_ M7 (4, 12) 12) X 8 (gt_ M7) = M8 at S8 kn8
  have kx8 := (S8.1.k hX7).trans kx7
  have K8 := K7.xx S8.1 kx7
  have hg8 := (S8.1.ge).trans hg7
  have hX8 : X < gt_ M8 := by have := S8.2.1; omega
  obtain ⟨s3a, s3g, s3r, s3i⟩ := S3
  obtain ⟨s4a, s4g, s4r, s4i⟩ := S4
  obtain ⟨s5a, s5g, s5r, s5i⟩ := S5
  obtain ⟨s6a, s6g, s6r, s6i⟩ := S6
  obtain ⟨s7a, s7g, s7r, s7i⟩ := S7
  obtain ⟨s8a, s8g, s8r, s8i⟩ := S8
  have run : r275 sa sv (d + 3) 0 [some (.ref X)] [] M0 = r275 sa sv (d + 3) 61 [some (.ref X)] [] M8 := by
    rw [b275_0, gq_pos hg0, e3, c0_v, gq_pos ⟨k3, by omega⟩, hM3, b275_15, gq_pos hg3, e4, c0_v, gq_pos ⟨k4, by omega⟩, hM4, b275_26, gq_pos hg4, e5, c0_v, gq_pos ⟨k5, by omega⟩, hM5, b275_37, nI_clamp (show 10 < 2 ^ 31 by omega), gq_pos ⟨by decide, by omega, hg5⟩, gq_pos ⟨kx5a, by omega⟩, hM6, b275_45, nI_clamp (show 10 < 2 ^ 31 by omega), gq_pos ⟨by decide, by omega, hg6⟩, gq_pos ⟨kx6a, by omega⟩, hM7, b275_53, nI_clamp (show 12 < 2 ^ 31 by omega), gq_pos ⟨by decide, by omega, hg7⟩, gq_pos ⟨kx7a, by omega⟩, hM8]
  have F7 := s8a
  have F6 := s7a.trans F7 (fun _ _ z => z)
  have F5 := s6a.trans F6 (fun _ _ z => z)
  have F4 := s5a.trans F5 (fun _ _ z => z)
  have F3 := s4a.trans F4 (fun _ _ z => z)
  have F0 := s3a.trans F3 (fun _ _ z => z)
  have L3 := c3.xx F3 kx3 K3.2.1 K3.1
  have L4 := c4.xx F4 kx4 K4.2.1 K4.1
  have L5 := c5.xx F5 kx5 K5.2.1 K5.1
  have e3' : gt_ M3 = X + 2 := by omega
  have e4' : gt_ M4 = X + 3 := by omega
  have e5' : gt_ M5 = X + 4 := by omega
  have e6' : gt_ M6 = X + 5 := by omega
  have e7' : gt_ M7 = X + 6 := by omega
  rw [g0] at L3
  rw [e3'] at L4
  rw [e4'] at L5
  rw [e5'] at kn6 in6
  rw [e6'] at kn7 ln7
  rw [e7'] at kn8
  refine ⟨M8, run, ⟨kx8, K8, hg8, by omega, ?_, ⟨?_, ?_, ?_, ?_, ?_, ?_⟩, ⟨L3, L4, L5⟩, ?_, ?_, ?_, ?_, kn8⟩, F0.mono (fun _ _ z => z) (by omega) (by omega)⟩
  · rw [s8i, s7i, s6i, s5i, s4i, s3i, ix0]
  · rw [s8r, if_neg (by omega), s7r, if_neg (by omega), s6r, if_neg (by omega), s5r, if_neg (by omega), s4r, if_neg (by omega), s3r, if_pos rfl, g0]
  · rw [s8r, if_neg (by omega), s7r, if_neg (by omega), s6r, if_neg (by omega), s5r, if_neg (by omega), s4r, if_pos rfl, e3']
  · rw [s8r, if_neg (by omega), s7r, if_neg (by omega), s6r, if_neg (by omega), s5r, if_pos rfl, e4']
  · rw [s8r, if_neg (by omega), s7r, if_neg (by omega), s6r, if_pos rfl, e5']
  · rw [s8r, if_neg (by omega), s7r, if_pos rfl, e6']
  · rw [s8r, if_pos rfl, e7']
  · rw [F6.k (by omega), kn6]
  · rw [F6.i (by omega) (by omega), in6]
  · rw [F7.k (by omega), kn7]
  · rw [F7.l (by omega) (by omega), ln7]
theorem x275b {X : Nat} {M8 : am_M} (h8 : N8 sa sv X M8) (h0 : 0 < X) : ∃ M15, r275 sa sv (d + 3) 61 [some (.ref X)] [] M8 = some (.inl none, M15) ∧ WS M15 sv X (ow0 X) z0s z0q ∧ KS sa M15 sv ∧ Ex (fun y => y = X) 36 226 M8 M15 ∧ gt_ M15 = X + 43 ∧ gi_ M15 X 17 = nI 0 := by
  have no : ∀ y, ¬ NoP y := fun _ y => y
  obtain ⟨kx8, K8, hg8, g8, ix8, ⟨u3, u4, u5, u6, u7, u8⟩, ⟨l3, l4, l5⟩, kn6, in6, kn7, ln7, kn8⟩ := h8
  have hX8 : X < gt_ M8 := by omega
  -- 9: total
  have kx8a : gk_ (mu_ M8 10 4) X = (1, 12) := ((Ex.mu M8 10 4).k hX8).trans kx8
  have S9 := Sf.of (x := X) (f := 9) (Ex.mu M8 10 4) rfl hX8
  obtain ⟨p9, q9, r9⟩ := mu_k M8 10 4
  have kn9 : gk_ (sr_ (mu_ M8 10 4) X 9 (gt_ M8)) (gt_ M8) = (12, 10) := p9
  have rn9 : ∀ p, p < 10 → gk_ (sr_ (mu_ M8 10 4) X 9 (gt_ M8)) (gt_ M8 + 1 + p) = (4, 4) ∧ gl_ (sr_ (mu_ M8 10 4) X 9 (gt_ M8)) (gt_ M8 + 1 + p) = fun _ => 0 := q9
  have gn9 : ∀ p, p < 10 → gr_ (sr_ (mu_ M8 10 4) X 9 (gt_ M8)) (gt_ M8) p = gt_ M8 + 1 + p := fun p hp => by rw [gr_sr, if_neg (by omega)]; exact r9 p hp
  generalize hM9 : sr_ (mu_ M8 10 4) X 9 (gt_ M8) = M9 at S9 kn9 rn9 gn9
  have kx9 := (S9.1.k hX8).trans kx8
  have K9 := K8.xx S9.1 kx8
  have hg9 := (S9.1.ge).trans hg8
  have hX9 : X < gt_ M9 := by have := S9.2.1; omega
  -- 10: current
  have kx9a : gk_ (mu_ M9 10 3) X = (1, 12) := ((Ex.mu M9 10 3).k hX9).trans kx9
  have S10 := Sf.of (x := X) (f := 10) (Ex.mu M9 10 3) rfl hX9
  obtain ⟨p10, q10, r10⟩ := mu_k M9 10 3
  have kn10 : gk_ (sr_ (mu_ M9 10 3) X 10 (gt_ M9)) (gt_ M9) = (12, 10) := p10
  have rn10 : ∀ p, p < 10 → gk_ (sr_ (mu_ M9 10 3) X 10 (gt_ M9)) (gt_ M9 + 1 + p) = (4, 3) ∧ gl_ (sr_ (mu_ M9 10 3) X 10 (gt_ M9)) (gt_ M9 + 1 + p) = fun _ => 0 := q10
  have gn10 : ∀ p, p < 10 → gr_ (sr_ (mu_ M9 10 3) X 10 (gt_ M9)) (gt_ M9) p = gt_ M9 + 1 + p := fun p hp => by rw [gr_sr, if_neg (by omega)]; exact r10 p hp
  generalize hM10 : sr_ (mu_ M9 10 3) X 10 (gt_ M9) = M10 at S10 kn10 rn10 gn10
  have kx10 := (S10.1.k hX9).trans kx9
  have K10 := K9.xx S10.1 kx9
  have hg10 := (S10.1.ge).trans hg9
  have hX10 : X < gt_ M10 := by have := S10.2.1; omega
  -- 11: earned
  have kx10a : gk_ (mu_ M10 10 12) X = (1, 12) := ((Ex.mu M10 10 12).k hX10).trans kx10
  have S11 := Sf.of (x := X) (f := 11) (Ex.mu M10 10 12) rfl hX10
  obtain ⟨p11, q11, r11⟩ := mu_k M10 10 12
  have kn11 : gk_ (sr_ (mu_ M10 10 12) X 11 (gt_ M10)) (gt_ M10) = (12, 10) := p11
  have rn11 : ∀ p, p < 10 → gk_ (sr_ (mu_ M10 10 12) X 11 (gt_ M10)) (gt_ M10 + 1 + p) = (4, 12) ∧ gl_ (sr_ (mu_ M10 10 12) X 11 (gt_ M10)) (gt_ M10 + 1 + p) = fun _ => 0 := q11
  have gn11 : ∀ p, p < 10 → gr_ (sr_ (mu_ M10 10 12) X 11 (gt_ M10)) (gt_ M10) p = gt_ M10 + 1 + p := fun p hp => by rw [gr_sr, if_neg (by omega)]; exact r11 p hp
  generalize hM11 : sr_ (mu_ M10 10 12) X 11 (gt_ M10) = M11 at S11 kn11 rn11 gn11
  have kx11 := (S11.1.k hX10).trans kx10
  have K11 := K10.xx S11.1 kx10
  have hg11 := (S11.1.ge).trans hg10
  have hX11 : X < gt_ M11 := by have := S11.2.1; omega
  -- 12: statements
  obtain ⟨N12, e12, k12, S12, c12⟩ := n_lst (sa := sa) (d := d) K11 hg11 kx11 hX11 12
  generalize hM12 : sr_ N12 X 12 (gt_ M11) = M12 at S12 c12
  have kx12 := (S12.1.k hX11).trans kx11
  have K12 := K11.xx S12.1 kx11
  have hg12 := (S12.1.ge).trans hg11
  have hX12 : X < gt_ M12 := by have := S12.2.1; omega
  -- 13: lines
  obtain ⟨N13, e13, k13, S13, c13⟩ := n_lst (sa := sa) (d := d) K12 hg12 kx12 hX12 13
  generalize hM13 : sr_ N13 X 13 (gt_ M12) = M13 at S13 c13
  have kx13 := (S13.1.k hX12).trans kx12
  have K13 := K12.xx S13.1 kx12
  have hg13 := (S13.1.ge).trans hg12
  have hX13 : X < gt_ M13 := by have := S13.2.1; omega
  obtain ⟨s9a, s9g, s9r, s9i⟩ := S9
  obtain ⟨s10a, s10g, s10r, s10i⟩ := S10
  obtain ⟨s11a, s11g, s11r, s11i⟩ := S11
  obtain ⟨s12a, s12g, s12r, s12i⟩ := S12
  obtain ⟨s13a, s13g, s13r, s13i⟩ := S13
  have E14 : Ex (fun y => y = X) 0 0 M13 (si_ (sr_ M13 X 14 (gr_ M13 sv 6)) X 14 1) := ((Ex.refl (fun y => y = X) M13).sr (.inr rfl)).si (.inr rfl)
  have g14 : gt_ (si_ (sr_ M13 X 14 (gr_ M13 sv 6)) X 14 1) = gt_ M13 := rfl
  have r14 : ∀ f, ¬ f = 14 → gr_ (si_ (sr_ M13 X 14 (gr_ M13 sv 6)) X 14 1) X f = gr_ M13 X f := fun f hf => by rw [gr_si, gr_sr, if_neg (fun z => hf z.2)]
  have i14 : ∀ f, ¬ f = 14 → gi_ (si_ (sr_ M13 X 14 (gr_ M13 sv 6)) X 14 1) X f = gi_ M13 X f := fun f hf => by rw [gi_si, if_neg (fun z => hf z.2)]; rfl
  have kx14a : gk_ (al_ M13 (2, 0) 0) X = (1, 12) := (gk_alo _ _ _ hX13).trans kx13
  generalize hM14 : si_ (sr_ M13 X 14 (gr_ M13 sv 6)) X 14 1 = M14 at E14 g14 r14 i14
  have hX14 : X < gt_ M14 := by omega
  have kx14 : gk_ M14 X = (1, 12) := (E14.k hX13).trans kx13
  have xb : Ex NoP 1 0 M14 (al_ M14 (2, 0) 0) := Ex.al _ _ _
  have kx15a : gk_ (al_ M14 (2, 0) 0) X = (1, 12) := (gk_alo _ _ _ hX14).trans kx14
  have E15 : Ex (fun y => y = X) 1 0 M14 (si_ (sr_ (al_ M14 (2, 0) 0) X 16 (gt_ M14)) X 16 1) := ((xb.mono (P' := fun y => y = X) (fun _ _ z => absurd z id) (Nat.le_refl _) (Nat.le_refl _)).sr (.inr rfl)).si (.inr rfl)
  have g15 : gt_ (si_ (sr_ (al_ M14 (2, 0) 0) X 16 (gt_ M14)) X 16 1) = gt_ M14 + 1 := rfl
  have r15 : ∀ f, ¬ f = 16 → gr_ (si_ (sr_ (al_ M14 (2, 0) 0) X 16 (gt_ M14)) X 16 1) X f = gr_ M14 X f := fun f hf => by rw [gr_si, gr_sr, if_neg (fun z => hf z.2), xb.r hX14 (no _)]
  have i15 : ∀ f, ¬ f = 16 → gi_ (si_ (sr_ (al_ M14 (2, 0) 0) X 16 (gt_ M14)) X 16 1) X f = gi_ M14 X f := fun f hf => by rw [gi_si, if_neg (fun z => hf z.2)]; exact congrFun (xb.i hX14 (no _)) f
  have run : r275 sa sv (d + 3) 61 [some (.ref X)] [] M8 = some (.inl none, si_ (sr_ (al_ M14 (2, 0) 0) X 16 (gt_ M14)) X 16 1) := by
    rw [b275_61, nI_clamp (show 10 < 2 ^ 31 by omega), nI_clamp (show 4 < 2 ^ 31 by omega), gq_pos ⟨by decide, by decide, by omega, by omega, hg8⟩, gq_pos ⟨kx8a, by omega⟩, hM9, b275_72, nI_clamp (show 10 < 2 ^ 31 by omega), nI_clamp (show 3 < 2 ^ 31 by omega), gq_pos ⟨by decide, by decide, by omega, by omega, hg9⟩, gq_pos ⟨kx9a, by omega⟩, hM10, b275_83, nI_clamp (show 10 < 2 ^ 31 by omega), nI_clamp (show 12 < 2 ^ 31 by omega), gq_pos ⟨by decide, by decide, by omega, by omega, hg10⟩, gq_pos ⟨kx10a, by omega⟩, hM11, b275_95, gq_pos hg11, e12, c0_v, gq_pos ⟨k12, by omega⟩, hM12, b275_106, gq_pos hg12, e13, c0_v, gq_pos ⟨k13, by omega⟩, hM13, b275_117, gq_pos kx13, hM14, nI_clamp (show 0 < 2 ^ 31 by omega), gq_pos ⟨by decide, by omega, hg13⟩, gq_pos kx14a, ← g14]
  have kx15 : gk_ (si_ (sr_ (al_ M14 (2, 0) 0) X 16 (gt_ M14)) X 16 1) X = (1, 12) := kx15a
  generalize si_ (sr_ (al_ M14 (2, 0) 0) X 16 (gt_ M14)) X 16 1 = M15 at E15 g15 r15 i15 run kx15
  have F13 := E14.trans E15 (fun _ _ z => z)
  have F12 := s13a.trans F13 (fun _ _ z => z)
  have F11 := s12a.trans F12 (fun _ _ z => z)
  have F10 := s11a.trans F11 (fun _ _ z => z)
  have F9 := s10a.trans F10 (fun _ _ z => z)
  have F8 := (s9a.trans F9 (fun _ _ z => z)).mono (n' := 36) (z' := 226) (fun _ _ z => z) (by omega) (by omega)
  have K15 := K8.xx F8 kx8
  have R : ∀ f, f < 14 → gr_ M15 X f = gr_ M13 X f := fun f hf => by rw [r15 f (by omega), r14 f (by omega)]
  have R9 : ∀ f, f < 9 → gr_ M15 X f = gr_ M8 X f := fun f hf => by rw [R f (by omega), s13r, if_neg (by omega), s12r, if_neg (by omega), s11r, if_neg (by omega), s10r, if_neg (by omega), s9r, if_neg (by omega)]
  have I : ∀ f, ¬ f = 14 → ¬ f = 16 → gi_ M15 X f = 0 := fun f h1 h2 => by rw [i15 f h2, i14 f h1, s13i, s12i, s11i, s10i, s9i, ix8]
  have e9' : gt_ M9 = X + 18 := by omega
  have e10' : gt_ M10 = X + 29 := by omega
  have e11' : gt_ M11 = X + 40 := by omega
  have e12' : gt_ M12 = X + 41 := by omega
  have g15' : gt_ M15 = X + 43 := by omega
  have L12 := c12.xx F12 kx12 K12.2.1 K12.1
  have L13 := c13.xx F13 kx13 K13.2.1 K13.1
  rw [e11'] at L12
  rw [e12'] at L13
  rw [g8] at kn9 rn9 gn9
  rw [e9'] at kn10 rn10 gn10
  rw [e10'] at kn11 rn11 gn11
  have q9 : gr_ M15 X 9 = X + 7 := by rw [R 9 (by omega), s13r, if_neg (by omega), s12r, if_neg (by omega), s11r, if_neg (by omega), s10r, if_neg (by omega), s9r, if_pos rfl, g8]
  have q10 : gr_ M15 X 10 = X + 18 := by rw [R 10 (by omega), s13r, if_neg (by omega), s12r, if_neg (by omega), s11r, if_neg (by omega), s10r, if_pos rfl, e9']
  have q11 : gr_ M15 X 11 = X + 29 := by rw [R 11 (by omega), s13r, if_neg (by omega), s12r, if_neg (by omega), s11r, if_pos rfl, e10']
  have q12 : gr_ M15 X 12 = X + 40 := by rw [R 12 (by omega), s13r, if_neg (by omega), s12r, if_pos rfl, e11']
  have q13 : gr_ M15 X 13 = X + 41 := by rw [R 13 (by omega), s13r, if_pos rfl, e12']
  have st8 : ∀ y, y < X + 7 → ¬ y = X → gk_ M15 y = gk_ M8 y ∧ gi_ M15 y = gi_ M8 y ∧ gl_ M15 y = gl_ M8 y := fun y h1 h2 => ⟨F8.k (by rw [g8]; exact h1), F8.i (by rw [g8]; exact h1) h2, F8.l (by rw [g8]; exact h1) h2⟩
  have st9 : ∀ y, y < X + 18 → ¬ y = X → gk_ M15 y = gk_ M9 y ∧ gr_ M15 y = gr_ M9 y ∧ gl_ M15 y = gl_ M9 y := fun y h1 h2 => ⟨F9.k (by rw [e9']; exact h1), F9.r (by rw [e9']; exact h1) h2, F9.l (by rw [e9']; exact h1) h2⟩
  have st10 : ∀ y, y < X + 29 → ¬ y = X → gk_ M15 y = gk_ M10 y ∧ gr_ M15 y = gr_ M10 y ∧ gl_ M15 y = gl_ M10 y := fun y h1 h2 => ⟨F10.k (by rw [e10']; exact h1), F10.r (by rw [e10']; exact h1) h2, F10.l (by rw [e10']; exact h1) h2⟩
  have st11 : ∀ y, y < X + 40 → ¬ y = X → gk_ M15 y = gk_ M11 y ∧ gr_ M15 y = gr_ M11 y ∧ gl_ M15 y = gl_ M11 y := fun y h1 h2 => ⟨F11.k (by rw [e11']; exact h1), F11.r (by rw [e11']; exact h1) h2, F11.l (by rw [e11']; exact h1) h2⟩
  have l3' := l3.xx F8 kx8 K8.2.1 K8.1
  have l4' := l4.xx F8 kx8 K8.2.1 K8.1
  have l5' := l5.xx F8 kx8 K8.2.1 K8.1
  have a4 := st8 (X + 4) (by omega) (by omega)
  have a5 := st8 (X + 5) (by omega) (by omega)
  have a6 := st8 (X + 6) (by omega) (by omega)
  have a7 := st9 (X + 7) (by omega) (by omega)
  have a18 := st10 (X + 18) (by omega) (by omega)
  have a29 := st11 (X + 29) (by omega) (by omega)
  refine ⟨M15, run, WS0 kx15 h0 g15' (fun f hf => I f (by omega) (by omega)) ((R9 3 (by omega)).trans u3) ((R9 4 (by omega)).trans u4) ((R9 5 (by omega)).trans u5) ((R9 6 (by omega)).trans u6) ((R9 7 (by omega)).trans u7) ((R9 8 (by omega)).trans u8) q9 q10 q11 q12 q13 l3' l4' l5' L12 L13 (a4.1.trans kn6) (a4.2.1.trans in6) (a5.1.trans kn7) (a5.2.2.trans ln7) (a6.1.trans kn8) (a7.1.trans kn9) (fun p hp => ?_) (fun p hp => ?_) (a18.1.trans kn10) (fun p hp => ?_) (fun p hp => ?_) (a29.1.trans kn11) (fun p hp => ?_) (fun p hp => ?_), K15, F8, g15', I 17 (by omega) (by omega)⟩
  · rw [a7.2.1]
    exact gn9 p hp
  · have a := st9 (X + 8 + p) (by omega) (by omega)
    rw [a.1, a.2.2]
    exact rn9 p hp
  · rw [a18.2.1]
    exact gn10 p hp
  · have a := st10 (X + 19 + p) (by omega) (by omega)
    rw [a.1, a.2.2]
    exact rn10 p hp
  · rw [a29.2.1]
    exact gn11 p hp
  · have a := st11 (X + 30 + p) (by omega) (by omega)
    rw [a.1, a.2.2]
    exact rn11 p hp
theorem x275 (hK : KS sa m sv) (hg : ge_ m = true) (h0 : 0 < gt_ m) : ∃ m', am_ca sa sv (d + 4) 275 [.ref (gt_ m)] (al_ m (1, 12) 18) = some (.inl none, m') ∧ WS m' sv (gt_ m) (ow0 (gt_ m)) z0s z0q ∧ KS sa m' sv ∧ Ex NoP 43 400 m m' ∧ gt_ m' = gt_ m + 43 ∧ gi_ m' (gt_ m) 17 = nI 0 := by
  have xa : Ex NoP 1 18 m (al_ m (1, 12) 18) := Ex.al _ _ _
  obtain ⟨M8, e1, n8, x1⟩ := x275a (sa := sa) (d := d) (X := gt_ m) (M0 := al_ m (1, 12) 18) (gk_al m (1, 12) 18) (gi_alf m (1, 12) 18) rfl (hK.ex xa NoP.nk) hg h0
  obtain ⟨M15, e2, W, K, x2, g2, i2⟩ := x275b (sa := sa) (d := d) n8 h0
  refine ⟨M15, ?_, W, K, ((xa.trans x1 (fun y hy z => by omega)).trans x2 (fun y hy z => by omega)).mono (fun _ _ z => z) (by omega) (by omega), g2, i2⟩
  rw [c275, e1, e2]
end G8
