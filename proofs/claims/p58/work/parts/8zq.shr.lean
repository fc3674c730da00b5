/-! the generator's shares: the whole -/
section G8
variable {sa sv d x b t n z n' z' : Nat} {m m' m2 : am_M} {ow ow' : Nat → Nat} {s : Nat → Int32} {q : Nat → Int64} {l l' : List Int32}
theorem lsum_mem : ∀ (L : List (Nat × Nat)) (y : Nat × Nat), y ∈ L → y.2 ≤ lsum L := by
  intro L
  induction L with
  | nil => intro y hy; exact absurd hy List.not_mem_nil
  | cons a L ih =>
    intro y hy
    have e : lsum (a :: L) = a.2 + lsum L := by
      unfold lsum
      rw [List.map_cons, List.sum_cons]
    rcases List.mem_cons.mp hy with h | h
    · rw [h, e]
      omega
    · have := ih y h
      omega
theorem x280_48 {G to r nn first np : Nat} (hr3 : 300 ≤ ow r) (hrG : G ≤ r) (hG0 : 0 < G) (htoG : to < G) (hnp : cN s 0 = np) (hnn : nn ≤ np) (hnn4 : nn ≤ 4) (hnn1 : 1 ≤ nn) (hnp10 : np ≤ 10) (hf : first < 2 ^ 20) (h2 : l.length + 40 ≤ 1000) : ∀ (k j t : Nat) (M : am_M) (L : List (Nat × Nat)) (o8 : Option Value), j + k = nn → L.length = j → GS sa M sv x b t ow s q (l ++ bts L) → gk_ M r = (2, 2 * nn + 1) → G ≤ gt_ M → r < gt_ M → gk_ M to = (11, 1) → RwL M r L → (∀ i y, L[i]? = some y → y.1 = (first + i) % np ∧ 1 ≤ y.2) → lsum L + (nn - j) ≤ 100 → (0 < k ∨ lsum L = 100) → (bts L).length ≤ 7 * j → t + k < 2 ^ 20 → ∃ m' L' t', r280 sa sv (d + 7) 48 [some (.ref x), some (.ref b), some (.ref to), some (.int (nI nn)), some (.int (nI first)), some (.int (nI (100 - lsum L))), some (.ref r), some (.int (nI j)), o8] [] M = some (.inl none, m') ∧ GS sa m' sv x b t' ow s q (l ++ bts L') ∧ L'.length = nn ∧ (∀ i y, L'[i]? = some y → y.1 = (first + i) % np ∧ 1 ≤ y.2) ∧ lsum L' = 100 ∧ t' ≤ t + k ∧ gr_ m' to 0 = r ∧ gk_ m' r = (2, 2 * nn + 1) ∧ RwL m' r L' ∧ (bts L').length ≤ 28 ∧ Gs (fun y => G ≤ y ∨ y = to) x b (10 * k) (14008 * k) M m' := by
  intro k
  induction k with
  | zero =>
    intro j t M L o8 hj hL h kr hGM hrl kt hR hi hs hz hlen ht
    have hj' : j = nn := by omega
    have hz' : lsum L = 100 := by omega
    have nb : ¬ b = to := fun z => by
      have := h.kb
      rw [z, kt] at this
      exact absurd (congrArg (fun q => q.1) this) (by show ¬ 11 = 1; decide)
    refine ⟨sr_ M to 0 r, L, t, ?_, h.sto kt, by omega, hi, hz', Nat.le_refl _, by rw [gr_sr, if_pos ⟨rfl, rfl⟩], kr, hR, by omega, ⟨(Ex.refl _ _).sr (.inr (.inr (.inr (.inr rfl)))), .inl (by rw [gr_sr, if_neg (fun z => nb z.1)])⟩⟩
    rw [b280_48, hj', gb_pos (by rw [nI_leI (by omega) (by omega)]; exact Nat.le_refl _), kt, gq_pos ⟨in_of (show 0 < 1 by omega) (by omega), ⟨by omega, .inr (.inr (.inl ⟨rfl, by rw [kr]⟩))⟩⟩, nI_clamp (show 0 < 2 ^ 31 by omega)]
  | succ k ih =>
    intro j t M L o8 hj hL h kr hGM hrl kt hR hi hs hz hlen ht
    have hnp0 : 0 < np := by omega
    have fin : ∀ (M1 : am_M) (t1 v : Nat) (o9 : Option Value), GS sa M1 sv x b t1 ow s q (l ++ bts L) → Gx x b 0 0 M M1 → 1 ≤ v → lsum L + v + (nn - (j + 1)) ≤ 100 → (0 < k ∨ lsum L + v = 100) → t1 ≤ t + 1 → ∃ m' L' t', r280 sa sv (d + 7) 82 [some (.ref x), some (.ref b), some (.ref to), some (.int (nI nn)), some (.int (nI first)), some (.int (nI (100 - lsum L))), some (.ref r), some (.int (nI j)), o9] [(.int (nI v))] M1 = some (.inl none, m') ∧ GS sa m' sv x b t' ow s q (l ++ bts L') ∧ L'.length = nn ∧ (∀ i y, L'[i]? = some y → y.1 = (first + i) % np ∧ 1 ≤ y.2) ∧ lsum L' = 100 ∧ t' ≤ t + (k + 1) ∧ gr_ m' to 0 = r ∧ gk_ m' r = (2, 2 * nn + 1) ∧ RwL m' r L' ∧ (bts L').length ≤ 28 ∧ Gs (fun y => G ≤ y ∨ y = to) x b (10 * (k + 1)) (14008 * (k + 1)) M m' := fun M1 t1 v o9 h1 f1 hv1 hv2 hv3 ht1 => by
      have f1' := f1.gs (S := fun y => G ≤ y ∨ y = to)
      have f1n := f1.gs (S := fun _ => False)
      obtain ⟨c1, c2, _⟩ := f1n.keep h.sb kr (.inl rfl) h.xn.1 hrl (fun z => z)
      have g1 := f1.1.gt
      obtain ⟨M2, e2, G2, f2, R2, k2⟩ := x280_82 (sa := sa) (d := d) (G := G) (to := to) (N := 2 * nn + 1) (first := first) (k := j) (np := np) (v := v) h1 hr3 (c1.trans kr) hrG (by omega) (by
        unfold RwL
        rw [c2]
        exact hR) hL.symm (by omega) (by omega) hnp hnp0 hnp10 hf (by omega) (by rw [List.length_append]; omega) (nI nn) (nI (100 - lsum L)) o9
      have g2 := f2.1.gt
      obtain ⟨t1', _, _⟩ := f1n.keep h.sb kt (.inr (.inl rfl)) h.xn.1 (by omega) (fun z => z)
      obtain ⟨t2', _, _⟩ := f2.keep h1.sb (t1'.trans kt) (.inr (.inl rfl)) h1.xn.1 (by omega) (by omega)
      have hls : lsum (L ++ [((first + j) % np, v)]) = lsum L + v := lsum_app _ _
      obtain ⟨m', L', t', e3, G3, a1, a2, a3, a4, a5, a6, a7, a8, f3⟩ := ih (j + 1) t1 M2 (L ++ [((first + j) % np, v)]) (some (.int (nI v))) (by omega) (by rw [List.length_append, hL]; rfl) G2 k2 (by omega) (by omega) (t2'.trans (t1'.trans kt)) R2 (fun i y hy => by
        by_cases hj : i < L.length
        · rw [List.getElem?_append_left hj] at hy
          exact hi i y hy
        · rw [List.getElem?_append_right (by omega)] at hy
          have hj2 := (List.getElem?_eq_some_iff.mp hy).1
          have hj3 : i - L.length < 1 := hj2
          have hj0 : i - L.length = 0 := by omega
          rw [hj0] at hy
          have hy' : ((first + j) % np, v) = y := Option.some.inj hy
          have hjk : i = j := by omega
          rw [← hy', hjk]
          exact ⟨rfl, hv1⟩) (by rw [hls]; exact hv2) (by rw [hls]; exact hv3) (by
        have := bts_len L ((first + j) % np, v) (show v < 1000 by omega)
        omega) (by omega)
      rw [hls] at e3
      refine ⟨m', L', t', ?_, G3, a1, a2, a3, by omega, a5, a6, a7, a8, ?_⟩
      · rw [e2, nI_sub (by omega), show 100 - lsum L - v = 100 - (lsum L + v) by omega]
        exact e3
      · exact ((f1'.trans (f2.mono (fun _ _ z => .inl z) (Nat.le_refl _) (Nat.le_refl _))).trans f3).mono (fun _ _ z => z) (by omega) (by omega)
    rw [b280_48, gb_neg (by rw [nI_leI (by omega) (by omega)]; omega), nI_sub (show 1 ≤ nn by omega)]
    by_cases hk : k = 0
    · rw [gb_pos (by rw [show j = nn - 1 by omega])]
      exact fin M t (100 - lsum L) o8 h (Gx.refl _) (by omega) (by omega) (.inr (by omega)) (by omega)
    · rw [gb_neg (by rw [nI_eqE (by omega) (by omega)]; omega), gq_pos h.xn.1, nI_sub (show j ≤ nn - 1 by omega), nI_sub (show nn - 1 - j ≤ 100 - lsum L by omega)]
      obtain ⟨v, M1, hv, e1, G1, f1⟩ := h.next (sa := sa) (d := d + 4) (n := 100 - lsum L - (nn - 1 - j)) (by omega) (by omega) (by omega)
      rw [e1, ci_v, nI_add]
      exact fin M1 (t + 1) (1 + v) o8 G1 f1 (by omega) (by omega) (.inl (by omega)) (Nat.le_refl _)
theorem x280 (h : GS sa m sv x b t ow s q l) (h3 : ∀ y, gt_ m ≤ y → 300 ≤ ow y) {to : Nat} (hto : gk_ m to = (11, 1)) (htol : to < gt_ m) (hnp : 1 ≤ cN s 0) (hnp10 : cN s 0 ≤ 10) (h2 : l.length + 45 ≤ 1000) (ht : t + 10 < 2 ^ 20) : ∃ m' L t' r, am_ca sa sv (d + 8) 280 [.ref x, .ref b, .ref to] m = some (.inl none, m') ∧ GS sa m' sv x b t' ow s q (l ++ (kb_ 11 ++ bts L)) ∧ ¬ L = [] ∧ L.length ≤ 4 ∧ GSh s L ∧ lsum L = 100 ∧ t' ≤ t + 10 ∧ gr_ m' to 0 = r ∧ gk_ m' r = (2, 2 * L.length + 1) ∧ gt_ m ≤ r ∧ r < gt_ m' ∧ RwL m' r L ∧ (bts L).length ≤ 28 ∧ Gs (fun y => y = to) x b 50 60000 m m' := by
  have hx0 : ∀ (M : am_M) (t : Nat), GS sa M sv x b t ow s q l → gi_ M x 0 = nI (cN s 0) := fun M t hM => by rw [hM.ws.np, ((wc_np hM.wg.C).c (by decide)).1]
  obtain ⟨v, m1, hv, e1, G1, f1⟩ := h.next (sa := sa) (d := d + 4) (n := min 4 (cN s 0)) (by omega) (by omega) (by omega)
  obtain ⟨w, m2, hw, e2, G2, f2⟩ := G1.next (sa := sa) (d := d + 4) (n := cN s 0) (by omega) (by omega) (by omega)
  have hg : ge_ m2 = true := G2.sb.kb.2.2.2.2
  have g1 := f1.1.gt
  have g2 := f2.1.gt
  have xa : Ex NoP 1 (2 * (1 + v) + 1) m2 (al_ m2 (2, 2 * (1 + v) + 1) (2 * (1 + v) + 1)) := Ex.al _ _ _
  have G3 := G2.no xa
  have kr3 : gk_ (al_ m2 (2, 2 * (1 + v) + 1) (2 * (1 + v) + 1)) (gt_ m2) = (2, 2 * (1 + v) + 1) := gk_al m2 _ _
  have ir3 : gi_ (al_ m2 (2, 2 * (1 + v) + 1) (2 * (1 + v) + 1)) (gt_ m2) = fun _ => 0 := gi_alf m2 _ _
  have g3 : gt_ (al_ m2 (2, 2 * (1 + v) + 1) (2 * (1 + v) + 1)) = gt_ m2 + 1 := rfl
  have kt3 : gk_ (al_ m2 (2, 2 * (1 + v) + 1) (2 * (1 + v) + 1)) to = (11, 1) := (xa.k (by omega)).trans ((f2.1.k (by omega)).trans ((f1.1.k (by omega)).trans hto))
  obtain ⟨m4, e4, G4, f4⟩ := G3.c (sa := sa) (d := d + 2) (i := 11) (by omega) (by rw [kb11]; show _ + 3 ≤ 1000; omega)
  have kb3 := G3.kb
  generalize hm3 : al_ m2 (2, 2 * (1 + v) + 1) (2 * (1 + v) + 1) = m3 at xa G3 kr3 ir3 g3 kt3 e4 f4 kb3
  have f4n := f4.gs (S := fun _ => False)
  obtain ⟨c1, c2, _⟩ := f4n.keep G3.sb kr3 (.inl rfl) G3.xn.1 (by omega) (fun z => z)
  obtain ⟨c3, _, _⟩ := f4n.keep G3.sb kt3 (.inr (.inl rfl)) G3.xn.1 (by omega) (fun z => z)
  have g4 := f4.1.gt
  have hb0 : bts [] = [] := rfl
  have G4' : GS sa m4 sv x b (t + 1 + 1) ow s q ((l ++ kb_ 11) ++ bts []) := by
    rw [hb0, List.append_nil]
    exact G4
  obtain ⟨m5, L, t5, e5, G5, a1, a2, a3, a4, a5, a6, a7, a8, f5⟩ := x280_48 (sa := sa) (d := d) (G := gt_ m) (to := to) (r := gt_ m2) (nn := 1 + v) (first := w) (np := cN s 0) (h3 _ (by omega)) (by omega) (by omega) (by omega) rfl (by omega) (by omega) (by omega) hnp10 (by omega) (by rw [List.length_append, kb11]; show _ + 3 + 40 ≤ 1000; omega) (1 + v) 0 (t + 1 + 1) m4 [] none (by omega) rfl G4' (c1.trans kr3) (by omega) (by omega) (c3.trans kt3) (by
    refine ⟨?_, fun j y hy => absurd hy (by simp)⟩
    rw [c2, ir3]) (fun i y hy => absurd hy (by simp)) (by show 0 + (1 + v - 0) ≤ 100; omega) (.inl (by omega)) (Nat.le_refl _) (by omega)
  have g5 := f5.1.gt
  rw [List.append_assoc] at G5
  refine ⟨m5, L, t5, gt_ m2, ?_, G5, fun z => by rw [z] at a1; exact absurd a1 (by show ¬ 0 = 1 + v; omega), by omega, ⟨fun y hy => ?_, ?_⟩, a3, by omega, a5, by rw [a1]; exact a6, by omega, by omega, a7, a8, ?_⟩
  · have kx := h.xn.1
    rw [c280, b280_0, gq_pos kx, gq_pos kx, hx0 m t h, min_ltN (by omega) (by omega), e1, ci_v, gq_pos G1.xn.1, gq_pos G1.xn.1, hx0 m1 _ G1, e2, ci_v, nI_add, pk_mul, nI_add, nI_clamp (show 2 * (1 + v) + 1 < 2 ^ 31 by omega), gq_pos ⟨nI_pos (by omega), by omega, hg⟩, hm3, gq_pos kb3, e4, cr_v]
    exact e5
  · obtain ⟨i, hi⟩ := List.getElem?_of_mem hy
    obtain ⟨u1, u2⟩ := a2 i y hi
    refine ⟨by rw [u1]; exact Nat.mod_lt _ (by omega), u2, ?_⟩
    have hsub := lsum_mem L y hy
    omega
  · rw [List.Nodup, List.pairwise_iff_getElem]
    intro i j hi hj hij
    rw [List.getElem_map, List.getElem_map]
    rw [List.length_map] at hi hj
    have u1 := (a2 i _ (List.getElem?_eq_getElem hi)).1
    have u2 := (a2 j _ (List.getElem?_eq_getElem hj)).1
    rw [u1, u2]
    exact mod_ne hij (by omega)
  · have y1 := ((f1.trans f2).gs (S := fun y => gt_ m ≤ y ∨ y = to))
    have y2 : Gs (fun y => gt_ m ≤ y ∨ y = to) x b 1 (2 * (1 + v) + 1) m2 m3 := ⟨xa.mono (fun _ _ z => absurd z id) (Nat.le_refl _) (Nat.le_refl _), .inl (by rw [xa.r (G2.sb.kb.2.1) (fun z => z)])⟩
    exact (((y1.trans y2).trans f4.gs).trans f5).mono (fun y hy z => by
      rcases z with z | z
      · omega
      · exact z) (by omega) (by omega)
end G8
