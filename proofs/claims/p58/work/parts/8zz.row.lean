/-! a row more: assignments, advances -/
section W8
variable {sa sv d x : Nat} {m : am_M} {ow : Nat → Nat} {s : Nat → Int32} {q : Nat → Int64}
theorem WS.ras (h : WS m sv x ow s q) (hC : WC s) (hW : WW s) (hG : GLm s) (ks : gk_ m sv = (0, 0)) (hsl : sv < gt_ m) {nn : Nat} (hn : cN s 2 = nn) (hnn : nn < 16) (ho : cN s 3 ≤ 12) {r : Nat} {f : Nat → Int32} (kr : gk_ m r = (2, 6)) (hrl : r < gt_ m) (hr3 : 300 ≤ ow r) (hr0 : ¬ r = 0) (hR : ∀ c, c < 6 → gi_ m r c = f c) : ∃ m1 ow', am_ca sa sv (d + 6) 238 [.ref (gr_ m x 4), .ref r] m = some (.inl (some (.int (nI 1))), m1) ∧ WS m1 sv x ow' (rowU s 594 2 nn f) q ∧ gk_ m (gr_ m x 4) = (1, 15) ∧ ¬ gr_ m x 4 = 0 ∧ (∀ y, y < gt_ m → ¬ y = r → ow' y = ow y) ∧ (∀ y, gt_ m1 ≤ y → 300 ≤ ow' y) ∧ Ex (LPa m (gr_ m x 4)) 1 160 m m1 ∧ (∀ y, y < gt_ m → LPa m (gr_ m x 4) y → (ow y = 3 ∨ ow y = 3 + 1 ∨ y = r) ∧ ((gk_ m y).1 = 10 ∨ gk_ m y = (1, 15))) := by
  have hG1 := hG.1
  have hRT : RT m ow (owu ow r (60 + nn)) := owu_RT hr3
  have h' := h.rt hRT hG (by omega) (by omega)
  obtain ⟨L, a1, a2, a3⟩ := h'.as
  have hel : am_el m 10 r ∧ r < gt_ m := ⟨⟨hr0, .inr (.inl ⟨rfl, .inr (.inl (by rw [kr]))⟩)⟩, hrl⟩
  obtain ⟨m1, e1, LW1, X1⟩ := a1.app (sa := sa) (d := d) hel (by omega) ks hsl
  have a1' := a1
  obtain ⟨⟨c1, hc1⟩, tg1, _⟩ := a1'
  have hT : ∀ u, (u = 3 ∨ u = 3 + 1) → 3 ≤ u ∧ u < 3 + 2 := fun u hu => by omega
  have nT : ∀ u, (u < 3 ∨ 3 + 2 ≤ u) → ¬ (u = 3 ∨ u = 3 + 1) := fun u h1 h2 => by omega
  have vc : rowU s 594 2 nn f 2 = nI (nn + 1) := if_pos rfl
  have cc : cN (rowU s 594 2 nn f) 2 = nn + 1 := cN_ vc (by omega)
  have vf : ∀ c, c < 6 → rowU s 594 2 nn f (594 + 6 * nn + c) = f c := fun c hc => by
    unfold rowU
    rw [if_neg (by omega), if_pos (by omega), show 594 + 6 * nn + c - (594 + 6 * nn) = c by omega]
  have vlo : ∀ k, ¬ k = 2 → (k < 594 + 6 * nn ∨ 594 + 6 * nn + 6 ≤ k) → rowU s 594 2 nn f k = s k := fun k h1 h2 => by
    unfold rowU
    rw [if_neg h1, if_neg (by omega)]
  generalize hW' : owe (owu ow r (60 + nn)) (gt_ m) (gr_ m1 (gr_ m x 4) 1) (3 + 1) = ow' at LW1 X1
  have g1 := X1.1.gt
  have rR : RW m1 ow' r (60 + nn) 6 f := by
    have R0 : RW m (owu ow r (60 + nn)) r (60 + nn) 6 f := ⟨kr, ⟨by unfold owu; rw [if_pos rfl], hrl, hr0⟩, hR⟩
    exact R0.xt X1 (nT _ (by omega))
  have hnew : ∃ L, LW m1 sv ow' (gr_ m x 4) 3 L ∧ L.length = cN (rowU s 594 2 nn f) 2 ∧ ∀ a, a < L.length → RW m1 ow' (L.getD a 0) (60 + a) 6 (fun c => rowU s 594 2 nn f (594 + 6 * a + c)) := by
    refine ⟨L ++ [r], LW1, by rw [List.length_append, a2, cc, hn]; rfl, fun a ha => ?_⟩
    rw [List.length_append, a2, hn] at ha
    have ha : a < nn + 1 := ha
    by_cases ea : a < nn
    · rw [app_n, if_pos (by omega)]
      obtain ⟨z1, z2, z3⟩ := (a3 a (by omega)).xt X1 (nT _ (by omega))
      exact ⟨z1, z2, fun c hc => (z3 c hc).trans (vlo _ (by omega) (by omega)).symm⟩
    · have ea1 : a = nn := by omega
      rw [app_n, if_neg (by omega), show a - L.length = 0 by omega, ea1]
      exact ⟨rR.1, rR.2.1, fun c hc => (rR.2.2 c hc).trans (vf c hc).symm⟩
  refine ⟨m1, ow', e1, h'.grow X1 (fun u hu => by have := hT u hu; omega) (fun k hk h1 h2 h3 => vlo k (by omega) (by omega)) (fun _ _ => rfl) (h'.wkx X1 (fun u hu => by have := hT u hu; omega) hC hW hG (fun k hk => vlo k (by omega) (by omega))) hnew (h'.adx X1 (fun u hu => by have := hT u hu; omega) (by omega) (fun k hk => vlo k (by omega) (by omega))), hc1.1, tg1.2.2, fun y hy hne => ?_, fun y hy => ?_, X1.1, fun y hy z => ?_⟩
  · rw [X1.2.2.1 y hy]
    exact if_neg hne
  · rw [← hW']
    unfold owe
    have hlt : gr_ m1 (gr_ m x 4) 1 < gt_ m1 := by
      obtain ⟨⟨c', hc'⟩, _⟩ := LW1
      exact hc'.2.2.2.2.2.2.2.2.2.1
    rw [if_neg (by omega), if_neg (by omega)]
    exact Nat.le_refl _
  · rcases z with z | ⟨z, z2⟩
    · refine ⟨?_, by rw [z]; exact .inr hc1.1⟩
      have := tg1.1
      unfold owu at this
      rw [← z] at this
      by_cases e : y = r
      · exact .inr (.inr e)
      · rw [if_neg e] at this
        exact .inl this
    · refine ⟨?_, .inl z2⟩
      obtain ⟨_, _, t2⟩ := a1
      rw [z] at z2
      have := t2 z2
      unfold owu at this
      rw [← z] at this
      by_cases e : y = r
      · exact .inr (.inr e)
      · rw [if_neg e] at this
        exact .inr (.inl this)
theorem WS.rad (h : WS m sv x ow s q) (hC : WC s) (hW : WW s) (hG : GLm s) (ks : gk_ m sv = (0, 0)) (hsl : sv < gt_ m) {nn : Nat} (hn : cN s 3 = nn) (hnn : nn < 12) (ho : cN s 2 ≤ 16) {r : Nat} {f : Nat → Int32} (kr : gk_ m r = (2, 6)) (hrl : r < gt_ m) (hr3 : 300 ≤ ow r) (hr0 : ¬ r = 0) (hR : ∀ c, c < 6 → gi_ m r c = f c) : ∃ m1 ow', am_ca sa sv (d + 6) 238 [.ref (gr_ m x 5), .ref r] m = some (.inl (some (.int (nI 1))), m1) ∧ WS m1 sv x ow' (rowU s 690 3 nn f) q ∧ gk_ m (gr_ m x 5) = (1, 15) ∧ ¬ gr_ m x 5 = 0 ∧ (∀ y, y < gt_ m → ¬ y = r → ow' y = ow y) ∧ (∀ y, gt_ m1 ≤ y → 300 ≤ ow' y) ∧ Ex (LPa m (gr_ m x 5)) 1 160 m m1 ∧ (∀ y, y < gt_ m → LPa m (gr_ m x 5) y → (ow y = 5 ∨ ow y = 5 + 1 ∨ y = r) ∧ ((gk_ m y).1 = 10 ∨ gk_ m y = (1, 15))) := by
  have hG1 := hG.1
  have hRT : RT m ow (owu ow r (80 + nn)) := owu_RT hr3
  have h' := h.rt hRT hG (by omega) (by omega)
  obtain ⟨L, a1, a2, a3⟩ := h'.ad
  have hel : am_el m 10 r ∧ r < gt_ m := ⟨⟨hr0, .inr (.inl ⟨rfl, .inr (.inl (by rw [kr]))⟩)⟩, hrl⟩
  obtain ⟨m1, e1, LW1, X1⟩ := a1.app (sa := sa) (d := d) hel (by omega) ks hsl
  have a1' := a1
  obtain ⟨⟨c1, hc1⟩, tg1, _⟩ := a1'
  have hT : ∀ u, (u = 5 ∨ u = 5 + 1) → 5 ≤ u ∧ u < 5 + 2 := fun u hu => by omega
  have nT : ∀ u, (u < 5 ∨ 5 + 2 ≤ u) → ¬ (u = 5 ∨ u = 5 + 1) := fun u h1 h2 => by omega
  have vc : rowU s 690 3 nn f 3 = nI (nn + 1) := if_pos rfl
  have cc : cN (rowU s 690 3 nn f) 3 = nn + 1 := cN_ vc (by omega)
  have vf : ∀ c, c < 6 → rowU s 690 3 nn f (690 + 6 * nn + c) = f c := fun c hc => by
    unfold rowU
    rw [if_neg (by omega), if_pos (by omega), show 690 + 6 * nn + c - (690 + 6 * nn) = c by omega]
  have vlo : ∀ k, ¬ k = 3 → (k < 690 + 6 * nn ∨ 690 + 6 * nn + 6 ≤ k) → rowU s 690 3 nn f k = s k := fun k h1 h2 => by
    unfold rowU
    rw [if_neg h1, if_neg (by omega)]
  generalize hW' : owe (owu ow r (80 + nn)) (gt_ m) (gr_ m1 (gr_ m x 5) 1) (5 + 1) = ow' at LW1 X1
  have g1 := X1.1.gt
  have rR : RW m1 ow' r (80 + nn) 6 f := by
    have R0 : RW m (owu ow r (80 + nn)) r (80 + nn) 6 f := ⟨kr, ⟨by unfold owu; rw [if_pos rfl], hrl, hr0⟩, hR⟩
    exact R0.xt X1 (nT _ (by omega))
  have hnew : ∃ L, LW m1 sv ow' (gr_ m x 5) 5 L ∧ L.length = cN (rowU s 690 3 nn f) 3 ∧ ∀ a, a < L.length → RW m1 ow' (L.getD a 0) (80 + a) 6 (fun c => rowU s 690 3 nn f (690 + 6 * a + c)) := by
    refine ⟨L ++ [r], LW1, by rw [List.length_append, a2, cc, hn]; rfl, fun a ha => ?_⟩
    rw [List.length_append, a2, hn] at ha
    have ha : a < nn + 1 := ha
    by_cases ea : a < nn
    · rw [app_n, if_pos (by omega)]
      obtain ⟨z1, z2, z3⟩ := (a3 a (by omega)).xt X1 (nT _ (by omega))
      exact ⟨z1, z2, fun c hc => (z3 c hc).trans (vlo _ (by omega) (by omega)).symm⟩
    · have ea1 : a = nn := by omega
      rw [app_n, if_neg (by omega), show a - L.length = 0 by omega, ea1]
      exact ⟨rR.1, rR.2.1, fun c hc => (rR.2.2 c hc).trans (vf c hc).symm⟩
  refine ⟨m1, ow', e1, h'.grow X1 (fun u hu => by have := hT u hu; omega) (fun k hk h1 h2 h3 => vlo k (by omega) (by omega)) (fun _ _ => rfl) (h'.wkx X1 (fun u hu => by have := hT u hu; omega) hC hW hG (fun k hk => vlo k (by omega) (by omega))) (h'.asx X1 (fun u hu => by have := hT u hu; omega) (by omega) (fun k hk => vlo k (by omega) (by omega))) hnew, hc1.1, tg1.2.2, fun y hy hne => ?_, fun y hy => ?_, X1.1, fun y hy z => ?_⟩
  · rw [X1.2.2.1 y hy]
    exact if_neg hne
  · rw [← hW']
    unfold owe
    have hlt : gr_ m1 (gr_ m x 5) 1 < gt_ m1 := by
      obtain ⟨⟨c', hc'⟩, _⟩ := LW1
      exact hc'.2.2.2.2.2.2.2.2.2.1
    rw [if_neg (by omega), if_neg (by omega)]
    exact Nat.le_refl _
  · rcases z with z | ⟨z, z2⟩
    · refine ⟨?_, by rw [z]; exact .inr hc1.1⟩
      have := tg1.1
      unfold owu at this
      rw [← z] at this
      by_cases e : y = r
      · exact .inr (.inr e)
      · rw [if_neg e] at this
        exact .inl this
    · refine ⟨?_, .inl z2⟩
      obtain ⟨_, _, t2⟩ := a1
      rw [z] at z2
      have := t2 z2
      unfold owu at this
      rw [← z] at this
      by_cases e : y = r
      · exact .inr (.inr e)
      · rw [if_neg e] at this
        exact .inr (.inl this)
end W8
