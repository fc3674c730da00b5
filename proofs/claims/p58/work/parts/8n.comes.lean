/-! what comes to each work: the whole -/
section W8
variable {sa sv d x a t n z u c it i : Nat} {m m1 m2 : am_M} {ow ow' : Nat → Nat} {T P : Nat → Prop} {L : List Nat} {s : Nat → Int32} {q : Nat → Int64}
theorem x288_o (h : WS m sv x ow s q) (hC : WC s) (hW : WW s) (hsv : sv < gt_ m) {b A : Nat} {l1 l2 : Int32} (hA : A ≤ 9999999) (hb : gt_ m ≤ b) : ∀ (v : Nat) (n z : Nat) (m1 : am_M) (f : Nat → Nat) (o5 o6 : Option Value), v ≤ cN s 1 → sum_ f v ≤ A → Ex NoP n z m m1 → b < gt_ m1 → gk_ m1 b = (2, cN s 1) → (∀ u, u < cN s 1 → gi_ m1 b u = nI (f u)) → ∃ m2, r288 sa sv (d + 3) 29 [some (.ref x), some (.int l1), some (.int l2), some (.ref b), some (.int (nI v - nI 1)), o5, o6] [] m1 = some (.inl (some (.ref b)), m2) ∧ Ex NoP (n + v) (z + 4 * v) m m2 ∧ gk_ m2 b = (2, cN s 1) ∧ b < gt_ m2 ∧ ∀ u, u < cN s 1 → gi_ m2 b u = nI (cm_ s v f u) := by
  obtain ⟨L, ⟨⟨c, hc⟩, a1, a0⟩, a2, a3⟩ := h.wk
  have no : ∀ y, ¬ NoP y := fun _ y => y
  have hz : ¬ gr_ m x 3 = 0 := a1.2.2
  have n13 := ((wc_nw hC).c (by decide)).2
  have hxl := h.x.2.1
  intro v
  induction v with
  | zero =>
    intro n z m1 f o5 o6 hv hf e hb2 kb hg
    exact ⟨m1, by rw [b288_29, gb_pos (by decide)], e, kb, hb2, hg⟩
  | succ v ih =>
    intro n z m1 f o5 o6 hv hf e hb2 kb hg
    have hvL : v < L.length := by omega
    have hWO := a3 v hvL
    have hWO' := hWO
    obtain ⟨w1, w2, _, ⟨Lo, ⟨⟨co, hco⟩, p1, p0⟩, p2, p3⟩⟩ := hWO'
    obtain ⟨hc1, r1, i1⟩ := hc.no e hsv
    have rx : gr_ m1 x = gr_ m x := e.r hxl (no _)
    have kx : gk_ m1 x = (1, 12) := (e.k hxl).trans h.k
    have e0 := x236 (sa := sa) (d := d) hc1 hvL
    have ko : gk_ m1 (L.getD v 0) = (1, 11) := (e.k w2.2.1).trans w1
    have ro : gr_ m1 (L.getD v 0) = gr_ m (L.getD v 0) := e.r w2.2.1 (no _)
    have hz1 : ¬ gr_ m (L.getD v 0) 1 = 0 := p1.2.2
    obtain ⟨ka, m2, e2, I2, f2, g2, x2⟩ := it_new2 (sa := sa) (d := d + 1) hco (Nat.pos_of_ne_zero hz1) hsv e
    have kb2 : gk_ m2 b = (2, cN s 1) := (x2.k hb2).trans kb
    have hg2 : ∀ u, u < cN s 1 → gi_ m2 b u = nI (sra_ s v (f v) 0 f u) := fun u hu => by
      rw [x2.i hb2 (no _)]
      exact hg u hu
    obtain ⟨m3, o6', it', e3, f3, k3, g3, h3⟩ := x288_i (sa := sa) (d := d) (l1 := l1) (l2 := l2) h hC hW hsv (v := v) (b := b) (L0 := 0) (by omega) f hA hf hWO hb (cN s (59 + 48 * v)) 0 m2 o6 (gt_ m1) (by omega) g2 (by omega) I2 f2 kb2 hg2
    have hs : sum_ (sra_ s v (f v) (cN s (59 + 48 * v)) f) v ≤ A := by
      rw [sra_sum hW (by omega) (by omega) _ _ _ (Nat.le_refl _)]
      have y1 := srp_le hW (f v) (show v < cN s 1 by omega) (Nat.le_refl _)
      rw [sum_s] at hf
      omega
    have hbm : b < gt_ m3 := by
      have := x2.gt
      omega
    obtain ⟨m4, e4, f4, k4, g4, h4⟩ := ih (n + 1) (z + 4) m3 (sra_ s v (f v) (cN s (59 + 48 * v)) f) it' o6' (by omega) hs f3 hbm k3 h3
    refine ⟨m4, ?_, f4.mono (fun _ _ y => y) (by omega) (by omega), k4, g4, h4⟩
    rw [nI_p1, b288_29, gb_neg (nI_pos (by omega)), gq_pos ⟨kx, by rw [rx]; exact hz⟩, rx, gq_pos hc1.1, e0, cr_v, ko, gq_pos ⟨rfl, fun _ => rfl⟩, ro, gq_pos ⟨rfl, hz1⟩, gq_pos ka, e2, cr_v, e3, e4]
theorem x288 (h : WS m sv x ow s q) (hC : WC s) (hW : WW s) (hsv : sv < gt_ m) (hg : ge_ m = true) {w A : Nat} (hw : w < cN s 1) (hA : A ≤ 9999999) : ∃ m2 b, am_ca sa sv (d + 4) 288 [.ref x, .int (nI w), .int (nI A)] m = some (.inl (some (.ref b)), m2) ∧ Ex NoP (1 + cN s 1) (5 * cN s 1) m m2 ∧ gk_ m2 b = (2, cN s 1) ∧ gt_ m ≤ b ∧ b < gt_ m2 ∧ ∀ u, u < cN s 1 → gi_ m2 b u = nI (cm_ s (cN s 1) (fun u => if u = w then A else 0) u) := by
  obtain ⟨L, ⟨⟨c, hc⟩, a1, a0⟩, a2, a3⟩ := h.wk
  have no : ∀ y, ¬ NoP y := fun _ y => y
  have hz : ¬ gr_ m x 3 = 0 := a1.2.2
  have n13 := ((wc_nw hC).c (by decide)).2
  have hxl := h.x.2.1
  have e0 := x233 (sa := sa) (d := d + 2) hc
  have eA : Ex NoP 1 (cN s 1) m (al_ m (2, cN s 1) (cN s 1)) := Ex.al m _ _
  generalize hM : al_ m (2, cN s 1) (cN s 1) = M at eA
  have gM : gt_ M = gt_ m + 1 := by rw [← hM]; rfl
  have kM : gk_ M (gt_ m) = (2, cN s 1) := by rw [← hM, gk_al]
  have iM : ∀ u, gi_ M (gt_ m) u = 0 := fun u => by rw [← hM, gi_al]
  have eB : Ex NoP 1 (cN s 1) m (si_ M (gt_ m) w (nI A)) := eA.si (.inl (Nat.le_refl _))
  obtain ⟨hc1, r1, i1⟩ := hc.no eB hsv
  have e1 := x233 (sa := sa) (d := d + 2) hc1
  have hs : sum_ (fun u => if u = w then A else 0) (cN s 1) ≤ A := by rw [sum_pt _ _ _ hw]; exact Nat.le_refl _
  obtain ⟨m2, e2, f2, k2, g2, h2⟩ := x288_o (sa := sa) (d := d) (l1 := nI w) (l2 := nI A) h hC hW hsv hA (Nat.le_refl (gt_ m)) (cN s 1) 1 (cN s 1) (si_ M (gt_ m) w (nI A)) (fun u => if u = w then A else 0) none none (Nat.le_refl _) hs eB (by show gt_ m < gt_ M; omega) kM (fun u hu => by
    rw [gi_si]
    by_cases y : u = w
    · rw [if_pos ⟨rfl, y⟩, if_pos y]
    · rw [if_neg (fun y2 => y y2.2), if_neg y, iM]
      rfl)
  refine ⟨m2, gt_ m, ?_, f2.mono (fun _ _ y => y) (by omega) (by omega), k2, Nat.le_refl _, g2, h2⟩
  have rx : gr_ M x = gr_ m x := eA.r hxl (no _)
  have kx : gk_ M x = (1, 12) := (eA.k hxl).trans h.k
  have kl : gk_ M (gr_ m x 3) = (1, 15) := hc1.1
  rw [c288, b288_0, gq_pos ⟨h.k, hz⟩, gq_pos hc.1, e0, ci_v, a2, nI_clamp (show cN s 1 < 2 ^ 31 by omega), gq_pos ⟨nI_pos (by omega), by omega, hg⟩, hM, kM, gq_pos ⟨rfl, in_of hw (by omega)⟩, rx, gq_pos ⟨kx, hz⟩, gq_pos kl, nI_clamp (show w < 2 ^ 31 by omega), e1, ci_v, a2, e2]
end W8
