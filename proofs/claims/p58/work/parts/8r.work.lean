/-! what a work keeps, and its cents -/
section W8
variable {sa sv d x a b nw n z : Nat} {m M : am_M} {F : Nat → Nat} {ls : List Ln} {ow : Nat → Nat} {s : Nat → Int32} {q : Nat → Int64}
theorem x289_c (hC : WC s) (hW : WW s) {w k c r : Nat} {day : Int32} (hw : w < cN s 1) (hk : k < cN s (18 + 48 * w)) (hr : RW m ow r (105 + 10 * w + k) (2 * cN s (23 + 48 * w + k) + 1) (fun j => if j = 0 then s (19 + 48 * w + k) else if j % 2 = 1 then s (27 + 48 * w + 4 * k + j / 2) else s (43 + 48 * w + 4 * k + (j / 2 - 1)))) (hc : c ≤ 9999998) (e : Ex NoP n z m M) (l1 l2 l6 : Int32) (o11 o12 o13 o14 : Option Value) : ∀ (t j : Nat), j + t = cN s (23 + 48 * w + k) → r289 sa sv d 136 [some (.ref x), some (.int l1), some (.int l2), some (.int day), some (.ref a), some (.ref b), some (.int l6), some (.int (nI c)), some (.ref r), some (.int (nI (c - sum_ (shp_ s w k c) j))), some (.int (nI (2 * j + 1))), o11, o12, o13, o14] [] M = r289 sa sv d 171 [some (.ref x), some (.int l1), some (.int l2), some (.int day), some (.ref a), some (.ref b), some (.int l6), some (.int (nI c)), some (.ref r), some (.int (nI (cts_ s w k c))), some (.int (nI 1)), o11, o12, o13, o14] [] M := by
  have no : ∀ y, ¬ NoP y := fun _ y => y
  obtain ⟨r1, r2, r3⟩ := hr
  obtain ⟨_, hN4⟩ := (ww_nh hW w k hw hk).1.c (by omega)
  have kr : gk_ M r = (2, 2 * cN s (23 + 48 * w + k) + 1) := (e.k r2.2.1).trans r1
  intro t
  induction t with
  | zero =>
    intro j hj
    have hj' : j = cN s (23 + 48 * w + k) := by omega
    subst hj'
    rw [b289_136, kr, gq_pos (by show 2 ≤ 2 ∧ ¬ 2 = 8; decide), gb_pos (by show nI (2 * cN s (23 + 48 * w + k) + 1) ≤ _; rw [nI_leI (by omega) (by omega)]; exact Nat.le_refl _)]
    rfl
  | succ t ih =>
    intro j hj
    have hjN : j < cN s (23 + 48 * w + k) := by omega
    obtain ⟨yc, zc⟩ := (ww_hc hW w k j hw hk hjN).1.c (by omega)
    have v2 : gi_ M r (2 * j + 2) = nI (cN s (43 + 48 * w + 4 * k + j)) := by
      rw [e.i r2.2.1 (no _)]
      refine (r3 (2 * j + 2) (by omega)).trans ?_
      show (if 2 * j + 2 = 0 then _ else if (2 * j + 2) % 2 = 1 then _ else _) = _
      rw [if_neg (by omega), if_neg (by omega), show (2 * j + 2) / 2 - 1 = j by omega]
      exact yc
    have hm : c * cN s (43 + 48 * w + 4 * k + j) < 2 ^ 31 := by
      have : c * cN s (43 + 48 * w + 4 * k + j) ≤ 9999998 * 100 := Nat.mul_le_mul hc (by omega)
      omega
    have hs := shp_le hW c hw hk (n := j + 1) (by omega)
    rw [sum_s] at hs
    have hi := ih (j + 1) (by omega)
    rw [sum_s] at hi
    rw [b289_136, kr, gq_pos (by show 2 ≤ 2 ∧ ¬ 2 = 8; decide), gb_neg (by show ¬ nI (2 * cN s (23 + 48 * w + k) + 1) ≤ _; rw [nI_leI (by omega) (by omega)]; omega), nI_add, gq_pos ⟨.inl rfl, in_of (show 2 * j + 1 + 1 < 2 * cN s (23 + 48 * w + k) + 1 by omega) (by omega)⟩, gq_pos (by decide), nI_clamp (show 2 * j + 1 + 1 < 2 ^ 31 by omega), show 2 * j + 1 + 1 = 2 * j + 2 from rfl, v2, pk_mul, pk_div hm (by decide) (by decide), nI_add]
    rw [show c * cN s (43 + 48 * w + 4 * k + j) / 100 = shp_ s w k c j from rfl, nI_sub (show shp_ s w k c j ≤ c - sum_ (shp_ s w k c) j by omega), show c - sum_ (shp_ s w k c) j - shp_ s w k c j = c - (sum_ (shp_ s w k c) j + shp_ s w k c j) by omega]
    exact hi
/-- what a work keeps of what came -/
theorem x289_r (hC : WC s) (hW : WW s) (hsv : sv < gt_ m) {w c o : Nat} {day : Int32} (hw : w < cN s 1) (hWO : WO m sv ow o w s) (hc : c ≤ 9999998) (hF : F w = c) (hnw : w < nw) (l1 l2 : Int32) : ∀ (k i n z it : Nat) (M : am_M) (o9 o10 o11 o12 o13 o14 : Option Value), i + k = cN s (59 + 48 * w) → gt_ m ≤ it → IT M it (gr_ m o 1) i → AL m M sv a b nw F ls n z → nw < 2 ^ 20 → ∃ M2 o9', gk_ M2 it = (1, 16) ∧ am_ca sa sv (d + 2) 245 [.ref it] M2 = some (.inl (some (.int (nI 0))), M2) ∧ r289 sa sv (d + 2) 66 [some (.ref x), some (.int l1), some (.int l2), some (.int day), some (.ref a), some (.ref b), some (.int (nI w)), some (.int (nI (c - srp_ s w c i))), some (.ref it), o9, o10, o11, o12, o13, o14] [] M = r289 sa sv (d + 2) 66 [some (.ref x), some (.int l1), some (.int l2), some (.int day), some (.ref a), some (.ref b), some (.int (nI w)), some (.int (nI (c - srp_ s w c (cN s (59 + 48 * w))))), some (.ref it), o9', o10, o11, o12, o13, o14] [] M2 ∧ AL m M2 sv a b nw F ls n z := by
  obtain ⟨_, _, _, ⟨L, ⟨⟨cc, hcL⟩, a1, a0⟩, a2, a3⟩⟩ := hWO
  have no : ∀ y, ¬ NoP y := fun _ y => y
  have hz' : 0 < gr_ m o 1 := Nat.pos_of_ne_zero a1.2.2
  have n13 := ((wc_nw hC).c (by decide)).2
  intro k
  induction k with
  | zero =>
    intro i n z it M o9 o10 o11 o12 o13 o14 hk hit hI hAL hn
    have hi : i = L.length := by omega
    have hI' := hI
    rw [hi] at hI'
    obtain ⟨e1, k1⟩ := it_end (sa := sa) (d := d + 1) hcL hz' hsv hAL.1 hI'
    refine ⟨M, o9, k1, e1, ?_, hAL⟩
    rw [show i = cN s (59 + 48 * w) by omega]
  | succ k ih =>
    intro i n z it M o9 o10 o11 o12 o13 o14 hk hit hI hAL hn
    have hi : i < L.length := by omega
    obtain ⟨e1, k1, M2, e2, I2, f2, fr⟩ := it_go2 (sa := sa) (d := d) hcL hz' hsv hAL.1 hI hit hi
    have A2 := hAL.it fr hit hI.1 hsv
    obtain ⟨b1, b2, b3⟩ := a3 i hi
    have kr : gk_ M2 (L.getD i 0) = (2, 2) := (f2.k b2.2.1).trans b1
    obtain ⟨y1, z1⟩ := (ww_oc hW w i hw (by omega)).c (by omega)
    have vr1 : gi_ M2 (L.getD i 0) 1 = nI (cN s (63 + 48 * w + i)) := by
      rw [f2.i b2.2.1 (no _)]
      refine (b3 1 (by omega)).trans ?_
      show s (60 + 48 * w + 3 * 1 + i) = _
      rw [show 60 + 48 * w + 3 * 1 + i = 63 + 48 * w + i by omega]
      exact y1
    obtain ⟨_, _, _, _, _, kb, vb⟩ := A2
    have hb := vb w hnw
    rw [hF] at hb
    have hm : c * cN s (63 + 48 * w + i) < 2 ^ 31 := by
      have : c * cN s (63 + 48 * w + i) ≤ 9999998 * 90 := Nat.mul_le_mul hc (by omega)
      omega
    have hs := srp_le hW c hw (n := i + 1) (by omega)
    have hs' : srp_ s w c i + c * cN s (63 + 48 * w + i) / 100 ≤ c := hs
    have A2 := hAL.it fr hit hI.1 hsv
    obtain ⟨M3, o9', k3, e4, e3, A3⟩ := ih (i + 1) n z it M2 (some (.ref (L.getD i 0))) o10 o11 o12 o13 o14 (by omega) hit I2 A2 hn
    refine ⟨M3, o9', k3, e4, ?_, A3⟩
    rw [← e3, b289_66, gq_pos k1, e1, ci_v, gb_neg (by decide), gq_pos k1, e2, cr_v, kr, gq_pos ⟨rfl, fun y => absurd y (by decide)⟩, kb, gq_pos ⟨.inl rfl, in_of hnw (by omega)⟩, gq_pos ⟨.inl rfl, in_of (show 1 < 2 by omega) (by omega)⟩, gq_pos (by decide), nI_clamp (show w < 2 ^ 31 by omega), nI_clamp (show 1 < 2 ^ 31 by omega), hb, vr1, pk_mul, pk_div hm (by decide) (by decide), nI_sub (show c * cN s (63 + 48 * w + i) / 100 ≤ c - srp_ s w c i by omega), show c - srp_ s w c i - c * cN s (63 + 48 * w + i) / 100 = c - srp_ s w c (i + 1) from by show _ = c - (srp_ s w c i + c * cN s (63 + 48 * w + i) / 100); omega]
theorem shs_0 (s : Nat → Int32) (w k day : Nat) : ∀ n, shs_ s w k 0 day n = [] := by
  have h1 : ∀ j, prt_ s w k 0 j = 0 := fun j => by
    unfold prt_ cts_ shp_
    rw [Nat.zero_mul, Nat.zero_div, Nat.zero_sub, if_neg (by omega)]
  have h2 : ∀ p n, asg_ s w p 0 day n = [] := fun p n => by
    induction n with
    | zero => rfl
    | succ n ih =>
      rw [asg_, ih, if_neg (fun y => by rw [Nat.zero_mul, Nat.zero_div] at y; omega)]
      rfl
  intro n
  induction n with
  | zero => rfl
  | succ n ih =>
    rw [shs_, ih, h1]
    unfold pl_
    rw [h2, Nat.zero_sub, if_neg (by omega)]
    rfl
end W8
