/-! the World reads its rows -/
section W8
variable {sa sv d x a t n z u c it i : Nat} {m m1 m2 : am_M} {ow ow' : Nat → Nat} {T P : Nat → Prop} {L : List Nat} {s : Nat → Int32} {q : Nat → Int64}
theorem Ex.xt0 (e : Ex NoP n z m m1) (hsv : sv < gt_ m) : Xt m sv ow ow NoP NoP n z m1 := ⟨e, fun _ _ y _ => absurd y id, fun _ _ => rfl, e.r hsv (fun y => y)⟩
theorem LC.no (h : LC m sv a c L) (e : Ex NoP n z m m1) (hsv : sv < gt_ m) : LC m1 sv a c L ∧ gr_ m1 a = gr_ m a ∧ gi_ m1 a = gi_ m a := by
  obtain ⟨h1, h3, h4, h5, h6, h7, h8, h9, h10, h11, h12⟩ := h
  have no : ∀ y, ¬ NoP y := fun _ y => y
  have g := e.gt
  have ra := e.r h10 (no _)
  have ia := e.i h10 (no _)
  exact ⟨⟨(e.k h10).trans h1, by rw [ia]; exact h3, by rw [ia]; exact h4, by rw [ra, e.k h11, e.r hsv (no _)]; exact h5, h6, h7, fun j hj => by rw [ra, e.r h11 (no _)]; exact h8 j hj, fun y hy => ⟨el_cg (h9 y hy).1 (e.k (h9 y hy).2), Nat.lt_of_lt_of_le (h9 y hy).2 g⟩, by omega, by rw [ra]; omega, (e.ge).trans h12⟩, ra, ia⟩
/-- the iterator moves: no old cell changes -/
theorem Ex.itr (e : Ex NoP n z m m1) (f : Fr (fun b _ => b = it) m1 m2) (hit : gt_ m ≤ it) : Ex NoP n z m m2 := by
  have := e.trans (Ex.of (P := fun b => b = it) f (fun a k y => y)) (fun b hb y => by omega)
  exact this
/-- for each: one turn -/
theorem it_go (h : LC m sv a c L) (ha : 0 < a) (hsv : sv < gt_ m) (e : Ex NoP n z m m1) (hI : IT m1 it a i) (hit : gt_ m ≤ it) (hi : i < L.length) : am_ca sa sv (d + 2) 245 [.ref it] m1 = some (.inl (some (.int (nI 1))), m1) ∧ gk_ m1 it = (1, 16) ∧ ∃ m2, am_ca sa sv (d + 2) 246 [.ref it] m1 = some (.inl (some (.ref (L.getD i 0))), m2) ∧ IT m2 it a (i + 1) ∧ Ex NoP n z m m2 := by
  obtain ⟨h1, r1, i1⟩ := h.no e hsv
  have e1 := x245 (sa := sa) (sv := sv) (d := d + 1) h1 hI ha (by omega)
  rw [if_pos hi] at e1
  obtain ⟨m2, e2, I2, f2⟩ := x246 (sa := sa) (d := d) h1 hI ha hi
  exact ⟨e1, hI.1, m2, e2, I2, e.itr f2 hit⟩
theorem it_end (h : LC m sv a c L) (ha : 0 < a) (hsv : sv < gt_ m) (e : Ex NoP n z m m1) (hI : IT m1 it a L.length) : am_ca sa sv (d + 1) 245 [.ref it] m1 = some (.inl (some (.int (nI 0))), m1) ∧ gk_ m1 it = (1, 16) := by
  obtain ⟨h1, r1, i1⟩ := h.no e hsv
  have e1 := x245 (sa := sa) (sv := sv) (d := d) h1 hI ha (Nat.le_refl _)
  rw [if_neg (Nat.lt_irrefl _)] at e1
  exact ⟨e1, hI.1⟩
theorem it_new (h : LC m sv a c L) (ha : 0 < a) (hsv : sv < gt_ m) (e : Ex NoP n z m m1) : gk_ m1 a = (1, 15) ∧ ∃ m2, am_ca sa sv (d + 2) 243 [.ref a] m1 = some (.inl (some (.ref (gt_ m1))), m2) ∧ IT m2 (gt_ m1) a 0 ∧ Ex NoP (n + 1) (z + 4) m m2 ∧ gt_ m ≤ gt_ m1 := by
  obtain ⟨h1, r1, i1⟩ := h.no e hsv
  obtain ⟨m2, e2, I2, f2, g2⟩ := x243 (sa := sa) (d := d) h1 ha
  exact ⟨h1.1, m2, e2, I2, e.trans f2 (fun _ _ y => y), e.gt⟩
/-- the split in force -/
theorem x274 {o w day : Nat} (h : WO m sv ow o w s) (hsv : sv < gt_ m) (hn : 0 < cN s (18 + 48 * w)) (hd : ∀ k, k < cN s (18 + 48 * w) → s (19 + 48 * w + k) = nI (cN s (19 + 48 * w + k)) ∧ cN s (19 + 48 * w + k) < 2 ^ 20 ∧ cN s (23 + 48 * w + k) ≤ 4) (hday : day < 2 ^ 20) : ∃ m' r, am_ca sa sv (d + 4) 274 [.ref o, .int (nI day)] m = some (.inl (some (.ref r)), m') ∧ Ex NoP 1 4 m m' ∧ RW m ow r (105 + 10 * w + spl_ s w day) (2 * cN s (23 + 48 * w + spl_ s w day) + 1) (fun j => if j = 0 then s (19 + 48 * w + spl_ s w day) else if j % 2 = 1 then s (27 + 48 * w + 4 * spl_ s w day + j / 2) else s (43 + 48 * w + 4 * spl_ s w day + (j / 2 - 1))) ∧ r = gr_ m (gr_ m (gr_ m o 0) 1) (spl_ s w day) := by
  obtain ⟨h1, h2, ⟨L, ⟨⟨c, hc⟩, a1, a0⟩, a2, a3⟩, _⟩ := h
  have no : ∀ y, ¬ NoP y := fun _ y => y
  have hz : ¬ gr_ m o 0 = 0 := a1.2.2
  have hz' : 0 < gr_ m o 0 := Nat.pos_of_ne_zero hz
  have hL : 0 < L.length := by omega
  have loop : ∀ (k i : Nat) (m1 : am_M) (o4 : Option Value) (it : Nat), i + k = L.length → gt_ m ≤ it → IT m1 it (gr_ m o 0) i → Ex NoP 1 4 m m1 → ∃ m2, r274 sa sv (d + 3) 24 [some (.ref o), some (.int (nI day)), some (.ref (L.getD (lst_ (fun k => decide (cN s (19 + 48 * w + k) ≤ day)) i) 0)), some (.ref it), o4] [] m1 = some (.inl (some (.ref (L.getD (lst_ (fun k => decide (cN s (19 + 48 * w + k) ≤ day)) L.length) 0))), m2) ∧ Ex NoP 1 4 m m2 := by
    intro k
    induction k with
    | zero =>
      intro i m1 o4 it hk hit hI e
      have hi : i = L.length := by omega
      subst hi
      obtain ⟨e1, k1⟩ := it_end (sa := sa) (d := d + 2) hc hz' hsv e hI
      exact ⟨m1, by rw [b274_24, gq_pos k1, e1, ci_v, gb_pos nI_0], e⟩
    | succ k ih =>
      intro i m1 o4 it hk hit hI e
      have hi : i < L.length := by omega
      obtain ⟨e1, k1, m2, e2, I2, f2⟩ := it_go (sa := sa) (d := d + 1) hc hz' hsv e hI hit hi
      obtain ⟨b1, b2, b3⟩ := a3 i hi
      have kr : gk_ m2 (L.getD i 0) = (2, 2 * cN s (23 + 48 * w + i) + 1) := (f2.k b2.2.1).trans b1
      have vr : gi_ m2 (L.getD i 0) 0 = s (19 + 48 * w + i) := by
        rw [f2.i b2.2.1 (no _)]
        exact (b3 0 (by omega)).trans (if_pos rfl)
      obtain ⟨d1, d2, d3⟩ := hd i (by omega)
      have go : ∀ o4, ∃ m3, r274 sa sv (d + 3) 24 [some (.ref o), some (.int (nI day)), some (.ref (L.getD (lst_ (fun k => decide (cN s (19 + 48 * w + k) ≤ day)) (i + 1)) 0)), some (.ref it), o4] [] m2 = some (.inl (some (.ref (L.getD (lst_ (fun k => decide (cN s (19 + 48 * w + k) ≤ day)) L.length) 0))), m3) ∧ Ex NoP 1 4 m m3 := fun o4 => ih (i + 1) m2 o4 it (by omega) hit I2 f2
      obtain ⟨m3, e3, f3⟩ := go (some (.ref (L.getD i 0)))
      refine ⟨m3, ?_, f3⟩
      rw [b274_24, gq_pos k1, e1, ci_v, gb_neg (by decide), gq_pos k1, e2, cr_v, kr, gq_pos ⟨rfl, fun y => absurd y (by decide)⟩, gq_pos ⟨.inl rfl, in_of (show 0 < 2 * cN s (23 + 48 * w + i) + 1 by omega) (by omega)⟩, nI_clamp (show 0 < 2 ^ 31 by omega), vr, d1]
      by_cases hq : cN s (19 + 48 * w + i) ≤ day
      · rw [gb_neg (by rw [nI_ltI (by omega) (by omega)]; omega)]
        rw [lst_s (decide_eq_true hq)] at e3
        exact e3
      · rw [gb_pos (by rw [nI_ltI (by omega) (by omega)]; omega)]
        rw [lst_n (decide_eq_false hq)] at e3
        exact e3
  obtain ⟨k0, m1, e1, I1, f1, g1⟩ := it_new (sa := sa) (d := d + 1) hc hz' hsv (Ex.refl NoP m)
  have I0 : IT m1 (gt_ m) (gr_ m o 0) 0 := I1
  obtain ⟨m2, e2, f2⟩ := loop L.length 0 m1 none (gt_ m) (by omega) (Nat.le_refl _) I0 (f1.mono (fun _ _ y => y) (by omega) (by omega))
  have hsp : spl_ s w day < L.length := by
    unfold spl_
    rw [← a2]
    exact lst_lt hL
  obtain ⟨b1, b2, b3⟩ := a3 0 hL
  have e0 := x236 (sa := sa) (d := d) hc (j := 0) hL
  refine ⟨m2, L.getD (spl_ s w day) 0, ?_, f2, a3 _ hsp, (hc.2.2.2.2.2.2.1 _ hsp).symm⟩
  rw [c274, b274_0, gq_pos ⟨h1, hz⟩, gq_pos k0, e0, cr_v, gq_pos ⟨by rw [b1], fun y => absurd y (by decide)⟩, gq_pos ⟨h1, hz⟩, gq_pos k0, e1, cr_v]
  have e3 := e2
  rw [show lst_ (fun k => decide (cN s (19 + 48 * w + k) ≤ day)) 0 = 0 from rfl] at e3
  rw [e3, a2]
  rfl
end W8
