/-! an advance more; both specs keep what is always so -/
section G89
variable {s : Nat → Int32} {q : Nat → Int64} {B n i : Nat} {b : Nat → Nat}
theorem WG.advance (h : WG B s q) {p t a0 c : Nat} {w : Int32} (hn : cN s 3 < 12) (hp : p < cN s 0) (ht : t < cN s 0) (ha0 : a0 < 1000000) (hc : 0 < c) (hc2 : c ≤ 100) (hw : w = -1 ∨ isN w (cN s 1)) : WG B (rowU s 690 3 (cN s 3) (v6c (nI p) (nI t) (nI a0) (nI c) w (nI a0))) q := by
  obtain ⟨⟨k1, k2, k3, k4, k5, k6, k7, k8⟩, hb⟩ := h
  have hnp := isN_lt (wc_np k1) (by decide)
  generalize hr : cN s 3 = r at *
  have hs : ∀ k, ¬ (k = 3 ∨ (690 + 6 * r ≤ k ∧ k < 690 + 6 * r + 6)) → rowU s 690 3 r (v6c (nI p) (nI t) (nI a0) (nI c) w (nI a0)) k = s k := fun k z => by
    unfold rowU; rw [if_neg (by omega), if_neg (by omega)]
  have u2 : rowU s 690 3 r (v6c (nI p) (nI t) (nI a0) (nI c) w (nI a0)) 3 = nI (r + 1) := if_pos rfl
  have ur : ∀ j, j < 6 → rowU s 690 3 r (v6c (nI p) (nI t) (nI a0) (nI c) w (nI a0)) (690 + 6 * r + j) = v6c (nI p) (nI t) (nI a0) (nI c) w (nI a0) j := fun j hj => by
    unfold rowU; rw [if_neg (by omega), if_pos (by omega), show 690 + 6 * r + j - (690 + 6 * r) = j by omega]
  generalize rowU s 690 3 r (v6c (nI p) (nI t) (nI a0) (nI c) w (nI a0)) = s' at *
  have c2 : cN s' 3 = r + 1 := cN_ u2 (by omega)
  have c0 : cN s' 0 = cN s 0 := cN_cg (hs _ (by omega))
  have c1 : cN s' 1 = cN s 1 := cN_cg (hs _ (by omega))
  have b0 : s' (690 + 6 * r + 0) = nI p := ur 0 (by decide)
  have b1 : s' (690 + 6 * r + 1) = nI t := ur 1 (by decide)
  have b2 : s' (690 + 6 * r + 2) = nI a0 := ur 2 (by decide)
  have b3 : s' (690 + 6 * r + 3) = nI c := ur 3 (by decide)
  have b4 : s' (690 + 6 * r + 4) = w := ur 4 (by decide)
  have b5 : s' (690 + 6 * r + 5) = nI a0 := ur 5 (by decide)
  refine ⟨⟨?_, k2.cg k1 (hs _ (by omega)) (hs _ (by omega)) (fun k _ _ => hs k (by omega)), k3.cg k1 (hs _ (by omega)) (hs _ (by omega)) (hs _ (by omega)) (fun k _ _ => hs k (by omega)), ?_, k5.cg k1 (hs _ (by omega)) (hs _ (by omega)) (hs _ (by omega)) (fun k _ _ => hs k (by omega)), k6.cg (hs _ (by omega)) (hs _ (by omega)) (fun _ _ => rfl), k7.cg (hs _ (by omega)) (hs _ (by omega)), k8.cg k1 (hs _ (by omega)) (hs _ (by omega)) (fun _ _ _ => rfl)⟩, hb⟩
  · obtain ⟨d0, d1, d2, d3, d4, d6, d8⟩ := k1
    exact ⟨by rw [hs _ (by omega)]; exact d0, by rw [hs _ (by omega)]; exact d1, by rw [hs _ (by omega)]; exact d2, ⟨r + 1, by omega, u2⟩, by rw [hs _ (by omega)]; exact d4, by rw [hs _ (by omega)]; exact d6, fun p hp => by rw [hs _ (by omega)]; exact d8 p hp⟩
  · obtain ⟨d1, d2, d3, d4, d5, d6, d7⟩ := k4
    rw [hr] at d1 d2 d3 d4 d5 d6 d7
    unfold WD
    rw [c2, c0, c1]
    refine ⟨fun a ha => ?_, fun a ha => ?_, fun a ha => ?_, fun a ha => ?_, fun a ha => ?_, fun a ha => ?_, fun a ha hb => ?_⟩
    · by_cases e : a = r
      · subst e; exact ⟨p, hp, b0⟩
      · rw [hs _ (by omega)]; exact d1 a (by omega)
    · by_cases e : a = r
      · subst e; exact ⟨t, ht, b1⟩
      · rw [hs _ (by omega)]; exact d2 a (by omega)
    · by_cases e : a = r
      · subst e; exact ⟨a0, ha0, b2⟩
      · rw [hs _ (by omega)]; exact d3 a (by omega)
    · by_cases e : a = r
      · subst e; rw [cN_ b3 (by omega)]; exact ⟨⟨c, by omega, b3⟩, hc⟩
      · rw [cN_cg (hs _ (by omega)), hs _ (by omega)]; exact d4 a (by omega)
    · by_cases e : a = r
      · subst e; rw [b4]; exact hw
      · rw [hs _ (by omega)]; exact d5 a (by omega)
    · by_cases e : a = r
      · subst e; exact ⟨a0, ha0, b5⟩
      · rw [hs _ (by omega)]; exact d6 a (by omega)
    · rw [hs _ (by omega)]; exact d7 a (by omega) hb
theorem sAS_WG (hG : WG B s q) {x : Nat × ((Nat → Int32) × (Nat → Int64))} (h : sAS s q b n i = .inr x) : WG B x.2.1 x.2.2 := by
  have hna := isN_lt (wc_na hG.1.1) (by decide)
  obtain ⟨x1, z1, h⟩ := eb_r h
  obtain ⟨x2, z2, h⟩ := eb_r h
  obtain ⟨x3, z3, h⟩ := eb_r h
  obtain ⟨x4, z4, h⟩ := eb_r h
  obtain ⟨x5, z5, h⟩ := eb_r h
  obtain ⟨x6, z6, h⟩ := eb_r h
  obtain ⟨x7, z7, h⟩ := eb_r h
  obtain ⟨x8, z8, h⟩ := eb_r h
  obtain ⟨x9, z9, h⟩ := eb_r h
  obtain ⟨x10, z10, h⟩ := eb_r h
  obtain ⟨x11, z11, h⟩ := eb_r h
  obtain ⟨x12, z12, h⟩ := eb_r h
  have k1 := (sFst_i z1).1
  have k2 := (sPay_i z2).2.2
  have k4 := (sWrk_i z4).2.2.1
  have k6 := (sPay_i z6).2.2
  have k7 := (sNum_i z7).2.2.2
  have k9 := (sNum_i z9).2.2.2
  have k11 := (sNum_i z11).2.2.2
  have w0 := (sSemi_i z12).2.1
  unfold whA at w0
  split at w0
  · cases w0
  · split at w0
    · split at w0
      · rename_i a1 a2 a3
        rw [← Sum.inr.inj h]
        exact hG.assign (by omega) k2 k4 k6 k7 (by omega) (by omega) a3
      · cases w0
    · cases w0
theorem sADt_WG (hG : WG B s q) {p t a c : Nat} {w : Int32} {j : Nat} (hn : cN s 3 < 12) (hp : p < cN s 0) (ht : t < cN s 0) (ha0 : a < 1000000) (hc : 0 < c) (hc2 : c ≤ 100) (hw : w = -1 ∨ isN w (cN s 1)) {x : Nat × ((Nat → Int32) × (Nat → Int64))} (h : sADt s q b n p t a c w j = .inr x) : WG B x.2.1 x.2.2 := by
  obtain ⟨x1, z1, h⟩ := eb_r h
  rw [← Sum.inr.inj h]
  exact hG.advance hn hp ht ha0 hc hc2 hw
theorem sAD_WG (hG : WG B s q) {x : Nat × ((Nat → Int32) × (Nat → Int64))} (h : sAD s q b n i = .inr x) : WG B x.2.1 x.2.2 := by
  have hnd := isN_lt (wc_nd hG.1.1) (by decide)
  obtain ⟨x1, z1, h⟩ := eb_r h
  obtain ⟨x2, z2, h⟩ := eb_r h
  obtain ⟨x3, z3, h⟩ := eb_r h
  obtain ⟨x4, z4, h⟩ := eb_r h
  obtain ⟨x5, z5, h⟩ := eb_r h
  obtain ⟨x6, z6, h⟩ := eb_r h
  obtain ⟨x7, z7, h⟩ := eb_r h
  have k1 := (sFst_i z1).1
  have k2 := (sPay_i z2).2.2
  have k3 := (sNum_i z3).2.2.2
  have k5 := (sPay_i z5).2.2
  have k7 := (sNum_i z7).2.2
  split at h
  · obtain ⟨x8, z8, h⟩ := eb_r h
    have k8 := (sWrk_i z8).2.2.1
    exact sADt_WG hG (by omega) k2 k5 (by omega) (by omega) k7.2 (Or.inr ⟨x8.2, k8, rfl⟩) h
  · exact sADt_WG hG (by omega) k2 k5 (by omega) (by omega) k7.2 (Or.inl rfl) h
end G89
