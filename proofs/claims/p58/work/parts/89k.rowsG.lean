/-! what is always so stays so behind an assignment, an advance more -/
section G89
variable {s : Nat → Int32} {q : Nat → Int64} {B n i : Nat} {b : Nat → Nat}
theorem mst_f (p w f u : Nat) : ∀ k, lv_ s p w f (cN s 2) ≤ mst_ s p w f u k := by
  intro k
  induction k with
  | zero => exact Nat.le_refl _
  | succ k ih =>
    show _ ≤ (if f < cN s (594 + 6 * k + 4) ∧ cN s (594 + 6 * k + 4) < u then max (mst_ s p w f u k) (lv_ s p w (cN s (594 + 6 * k + 4)) (cN s 2)) else mst_ s p w f u k)
    split <;> omega
theorem mst_a (p w f u : Nat) : ∀ k a, a < k → f < cN s (594 + 6 * a + 4) → cN s (594 + 6 * a + 4) < u → lv_ s p w (cN s (594 + 6 * a + 4)) (cN s 2) ≤ mst_ s p w f u k := by
  intro k
  induction k with
  | zero => intro a ha; omega
  | succ k ih =>
    intro a ha h1 h2
    show _ ≤ (if f < cN s (594 + 6 * k + 4) ∧ cN s (594 + 6 * k + 4) < u then max (mst_ s p w f u k) (lv_ s p w (cN s (594 + 6 * k + 4)) (cN s 2)) else mst_ s p w f u k)
    by_cases e : a = k
    · subst e
      rw [if_pos ⟨h1, h2⟩]; omega
    · have := ih a (by omega) h1 h2
      split <;> omega
theorem dom_ex (f day : Nat) (hf : f ≤ day) : ∀ k, ∃ D, f ≤ D ∧ D ≤ day ∧ (∀ a, a < k → cN s (594 + 6 * a + 4) ≤ day → cN s (594 + 6 * a + 4) ≤ D) ∧ (D = f ∨ ∃ a, a < k ∧ D = cN s (594 + 6 * a + 4)) := by
  intro k
  induction k with
  | zero => exact ⟨f, Nat.le_refl _, hf, fun a h => absurd h (by omega), Or.inl rfl⟩
  | succ k ih =>
    obtain ⟨D, h1, h2, h3, h4⟩ := ih
    by_cases e : cN s (594 + 6 * k + 4) ≤ day ∧ D < cN s (594 + 6 * k + 4)
    · refine ⟨cN s (594 + 6 * k + 4), by omega, e.1, fun a ha h => ?_, Or.inr ⟨k, by omega, rfl⟩⟩
      by_cases e2 : a = k
      · rw [e2]; exact Nat.le_refl _
      · have := h3 a (by omega) h; omega
    · refine ⟨D, h1, h2, fun a ha h => ?_, ?_⟩
      · by_cases e2 : a = k
        · subst e2; omega
        · exact h3 a (by omega) h
      · rcases h4 with h4 | ⟨a, h4, h5⟩
        · exact Or.inl h4
        · exact Or.inr ⟨a, by omega, h5⟩
theorem lv_dom (p w f u day : Nat) (hf : f ≤ day) (hu : day < u) : lv_ s p w day (cN s 2) ≤ mst_ s p w f u (cN s 2) := by
  obtain ⟨D, h1, h2, h3, h4⟩ := dom_ex (s := s) f day hf (cN s 2)
  have h5 : lv_ s p w day (cN s 2) ≤ lv_ s p w D (cN s 2) := by
    unfold lv_
    refine sum_le fun a ha => ?_
    by_cases e : cN s (594 + 6 * a + 0) = p ∧ cN s (594 + 6 * a + 1) = w ∧ cN s (594 + 6 * a + 4) ≤ day ∧ day < cN s (594 + 6 * a + 5)
    · have := h3 a ha e.2.2.1
      rw [if_pos e, if_pos ⟨e.1, e.2.1, this, by omega⟩]
      exact Nat.le_refl _
    · rw [if_neg e]; exact Nat.zero_le _
  rcases h4 with rfl | ⟨a, ha, rfl⟩
  · exact Nat.le_trans h5 (mst_f p w D u _)
  · by_cases e : f = cN s (594 + 6 * a + 4)
    · rw [← e] at h5
      exact Nat.le_trans h5 (mst_f p w f u _)
    · exact Nat.le_trans h5 (mst_a p w f u _ a ha (by omega) (by omega))
theorem WG.assign (h : WG B s q) {p w t c f u : Nat} (hn : cN s 2 < 16) (hp : p < cN s 0) (hw : w < cN s 1) (ht : t < cN s 0) (hc : c ≤ 100) (hf : f < 10000) (hu : u < 10000) (hm : mst_ s p w f u (cN s 2) + c ≤ 100) : WG B (rowU s 594 2 (cN s 2) (v6c (nI p) (nI w) (nI t) (nI c) (nI f) (nI u))) q := by
  have dom := fun day => lv_dom (s := s) p w f u day
  obtain ⟨⟨k1, k2, k3, k4, k5, k6, k7, k8⟩, hb⟩ := h
  have hnp := isN_lt (wc_np k1) (by decide)
  have hnw := isN_lt (wc_nw k1) (by decide)
  generalize hr : cN s 2 = r at *
  have hs : ∀ k, ¬ (k = 2 ∨ (594 + 6 * r ≤ k ∧ k < 594 + 6 * r + 6)) → rowU s 594 2 r (v6c (nI p) (nI w) (nI t) (nI c) (nI f) (nI u)) k = s k := fun k z => by
    unfold rowU; rw [if_neg (by omega), if_neg (by omega)]
  have u2 : rowU s 594 2 r (v6c (nI p) (nI w) (nI t) (nI c) (nI f) (nI u)) 2 = nI (r + 1) := if_pos rfl
  have ur : ∀ j, j < 6 → rowU s 594 2 r (v6c (nI p) (nI w) (nI t) (nI c) (nI f) (nI u)) (594 + 6 * r + j) = v6c (nI p) (nI w) (nI t) (nI c) (nI f) (nI u) j := fun j hj => by
    unfold rowU; rw [if_neg (by omega), if_pos (by omega), show 594 + 6 * r + j - (594 + 6 * r) = j by omega]
  generalize rowU s 594 2 r (v6c (nI p) (nI w) (nI t) (nI c) (nI f) (nI u)) = s' at *
  have c2 : cN s' 2 = r + 1 := cN_ u2 (by omega)
  have c0 : cN s' 0 = cN s 0 := cN_cg (hs _ (by omega))
  have c1 : cN s' 1 = cN s 1 := cN_cg (hs _ (by omega))
  have a0 : s' (594 + 6 * r + 0) = nI p := ur 0 (by decide)
  have a1 : s' (594 + 6 * r + 1) = nI w := ur 1 (by decide)
  have a2 : s' (594 + 6 * r + 2) = nI t := ur 2 (by decide)
  have a3 : s' (594 + 6 * r + 3) = nI c := ur 3 (by decide)
  have a4 : s' (594 + 6 * r + 4) = nI f := ur 4 (by decide)
  have a5 : s' (594 + 6 * r + 5) = nI u := ur 5 (by decide)
  refine ⟨⟨?_, k2.cg k1 (hs _ (by omega)) (hs _ (by omega)) (fun k _ _ => hs k (by omega)), ?_, k4.cg k1 (hs _ (by omega)) (hs _ (by omega)) (hs _ (by omega)) (fun k _ _ => hs k (by omega)), k5.cg k1 (hs _ (by omega)) (hs _ (by omega)) (hs _ (by omega)) (fun k _ _ => hs k (by omega)), k6.cg (hs _ (by omega)) (hs _ (by omega)) (fun _ _ => rfl), k7.cg (hs _ (by omega)) (hs _ (by omega)), k8.cg k1 (hs _ (by omega)) (hs _ (by omega)) (fun _ _ _ => rfl)⟩, hb⟩
  · obtain ⟨b0, b1, b2, b3, b4, b6, b8⟩ := k1
    exact ⟨by rw [hs _ (by omega)]; exact b0, by rw [hs _ (by omega)]; exact b1, ⟨r + 1, by omega, u2⟩, by rw [hs _ (by omega)]; exact b3, by rw [hs _ (by omega)]; exact b4, by rw [hs _ (by omega)]; exact b6, fun p hp => by rw [hs _ (by omega)]; exact b8 p hp⟩
  · obtain ⟨d1, d2, d3, d4, d5, d6, d7⟩ := k3
    rw [hr] at d1 d2 d3 d4 d5 d6 d7
    unfold WA
    rw [c2, c0, c1]
    refine ⟨fun a ha => ?_, fun a ha => ?_, fun a ha => ?_, fun a ha => ?_, fun a ha => ?_, fun a ha => ?_, fun p' w' day => ?_⟩
    · by_cases e : a = r
      · subst e; exact ⟨p, hp, a0⟩
      · rw [hs _ (by omega)]; exact d1 a (by omega)
    · by_cases e : a = r
      · subst e; exact ⟨w, hw, a1⟩
      · rw [hs _ (by omega)]; exact d2 a (by omega)
    · by_cases e : a = r
      · subst e; exact ⟨t, ht, a2⟩
      · rw [hs _ (by omega)]; exact d3 a (by omega)
    · by_cases e : a = r
      · subst e; exact ⟨c, by omega, a3⟩
      · rw [hs _ (by omega)]; exact d4 a (by omega)
    · by_cases e : a = r
      · subst e; exact ⟨f, hf, a4⟩
      · rw [hs _ (by omega)]; exact d5 a (by omega)
    · by_cases e : a = r
      · subst e; exact ⟨u, hu, a5⟩
      · rw [hs _ (by omega)]; exact d6 a (by omega)
    · rw [lv_s, cN_ a0 (by omega), cN_ a1 (by omega), cN_ a3 (by omega), cN_ a4 (by omega), cN_ a5 (by omega)]
      have e1 : lv_ s' p' w' day r = lv_ s p' w' day r := by
        unfold lv_
        refine sum_cg fun a ha => ?_
        rw [cN_cg (hs (594 + 6 * a + 0) (by omega)), cN_cg (hs (594 + 6 * a + 1) (by omega)), cN_cg (hs (594 + 6 * a + 3) (by omega)), cN_cg (hs (594 + 6 * a + 4) (by omega)), cN_cg (hs (594 + 6 * a + 5) (by omega))]
      rw [e1]
      have d7' := d7 p' w' day
      split
      · rename_i e
        obtain ⟨rfl, rfl, e3, e4⟩ := e
        have := dom day e3 e4
        omega
      · omega
end G89
