/-! what is always so stays so behind a closing, and behind small changes -/
section R79
variable {B : Nat} {s s' : Nat → Int32} {q : Nat → Int64}
theorem i64_lt {a b : Int64} : (a < b) = (a.toInt < b.toInt) := propext Int64.lt_iff_toInt_lt
theorem WG.close (h : WG B s q) (hB : B < 2 ^ 29) : WG (B + 1) (cS_ s) (cQ_ s q) := by
  obtain ⟨hF, hWB⟩ := h
  obtain ⟨c, w, a, d, li, z, k, n⟩ := hF
  have hs : ∀ k, ¬ (k = 5 ∨ k = 7 ∨ (762 ≤ k ∧ k < 767)) → cS_ s k = s k := fun k h => by
    unfold cS_
    rw [if_neg (by omega), if_neg (by omega), if_neg (by omega), if_neg (by omega)]
  have hq : ∀ k, (80 ≤ k ∧ k < 212) ∨ 462 ≤ k → cQ_ s q k = q k := fun k h => by
    unfold cQ_
    rcases h with h | h
    · rw [if_neg (by omega), if_neg (by omega), if_neg (by omega), if_pos (by omega)]
    · rw [if_neg (by omega), if_neg (by omega), if_neg (by omega), if_neg (by omega), if_neg (by omega), if_neg (by omega)]
  have e0 : cS_ s 0 = s 0 := hs _ (by omega)
  have e1 : cS_ s 1 = s 1 := hs _ (by omega)
  have hpd : ∀ p, cN s 0 ≤ p → pd_ s q p = 0 := fun p hp => by unfold pd_; rw [if_neg (by omega)]
  obtain ⟨e5, b5⟩ := (wk_c k).c (by omega)
  refine ⟨⟨?_, ?_, ?_, ?_, ?_, ?_, ?_, ?_⟩, ?_⟩
  · exact c.cg e0 e1 (hs _ (by omega)) (hs _ (by omega)) (hs _ (by omega)) (hs _ (by omega)) (fun p hp => hs _ (by omega))
  · exact w.cg c e0 e1 (fun k h1 h2 => hs k (by omega))
  · exact a.cg c e0 e1 (hs _ (by omega)) (fun k h1 h2 => hs k (by omega))
  · exact d.cg c e0 e1 (hs _ (by omega)) (fun k h1 h2 => hs k (by omega))
  · exact li.cg c e0 e1 (hs _ (by omega)) (fun k h1 h2 => hs k (by omega))
  · obtain ⟨a1, a2, a3, a4⟩ := z
    refine ⟨fun p h1 h2 => ?_, fun p c h1 h2 h3 => ?_, fun p c h1 h2 h3 => ?_, fun w h2 h3 => ?_⟩
    · rw [cN_cg e0] at h1
      unfold cQ_
      rw [if_pos h2, a1 p h1 h2, hpd p h1]; rfl
    · rw [cN_cg e0] at h1
      unfold cQ_
      rw [if_neg (by omega), if_pos (by omega), show (10 + 4 * p + c - 10) / 4 = p by omega, a2 p c h1 h2 h3, hpd p h1]
      split <;> rfl
    · unfold cQ_
      rw [if_neg (by omega), if_neg (by omega), if_pos (by omega)]
    · rw [cN_cg e1] at h2
      rw [hq _ (by omega)]; exact a4 w h2 h3
  · refine ⟨⟨cN s 5 + 1, by omega, by unfold cS_; rw [if_pos rfl]⟩, ?_⟩
    have e5' : cN (cS_ s) 5 = cN s 5 + 1 := cN_ (show cS_ s 5 = nI (cN s 5 + 1) by unfold cS_; rw [if_pos rfl]) (by omega)
    rw [e5']
    unfold cS_; rw [if_neg (by omega), if_pos rfl]
  · exact n.cg c e0 e1 (fun k h1 h2 => hq k (by omega))
  · intro p hp
    obtain ⟨h1, h2⟩ := hWB p hp
    unfold cQ_ pd_
    rw [if_pos hp]
    by_cases e : p < cN s 0 ∧ paid_ s q p = true
    · rw [if_pos e, Int64.sub_self]
      refine ⟨by decide, ?_⟩
      rw [show (0 : Int64).toInt = 0 by decide]
      omega
    · rw [if_neg e, Int64.sub_zero]
      refine ⟨h1, ?_⟩
      omega
/-- the day, a least balance, a second day -/
def up1 (s : Nat → Int32) (j : Nat) (v : Int32) (k : Nat) : Int32 := if k = j then v else s k
theorem up1_o {j k : Nat} {v : Int32} (h : ¬ k = j) : up1 s j v k = s k := if_neg h
theorem up1_s {j : Nat} {v : Int32} : up1 s j v j = v := if_pos rfl
theorem WG.day (h : WG B s q) (n : Nat) (hn : n < 10000) : WG B (up1 s 4 (nI n)) q := by
  obtain ⟨⟨c, w, a, d, l, z, k, nn⟩, hb⟩ := h
  have e : ∀ k, ¬ k = 4 → up1 s 4 (nI n) k = s k := fun k h => up1_o h
  refine ⟨⟨?_, w.cg c (e _ (by omega)) (e _ (by omega)) (fun k _ _ => e k (by omega)), a.cg c (e _ (by omega)) (e _ (by omega)) (e _ (by omega)) (fun k _ _ => e k (by omega)), d.cg c (e _ (by omega)) (e _ (by omega)) (e _ (by omega)) (fun k _ _ => e k (by omega)), l.cg c (e _ (by omega)) (e _ (by omega)) (e _ (by omega)) (fun k _ _ => e k (by omega)), z.cg (e _ (by omega)) (e _ (by omega)) (fun _ _ => rfl), k.cg (e _ (by omega)) (e _ (by omega)), nn.cg c (e _ (by omega)) (e _ (by omega)) (fun _ _ _ => rfl)⟩, hb⟩
  obtain ⟨a0, a1, a2, a3, a4, a6, a8⟩ := c
  exact ⟨by rw [e _ (by omega)]; exact a0, by rw [e _ (by omega)]; exact a1, by rw [e _ (by omega)]; exact a2, by rw [e _ (by omega)]; exact a3, ⟨n, hn, up1_s⟩, by rw [e _ (by omega)]; exact a6, fun p hp => by rw [e _ (by omega)]; exact a8 p hp⟩
theorem WG.least (h : WG B s q) (j n : Nat) (hj : j < 10) (hn : n < 100000) : WG B (up1 s (8 + j) (nI n)) q := by
  obtain ⟨⟨c, w, a, d, l, z, k, nn⟩, hb⟩ := h
  have e : ∀ k, ¬ k = 8 + j → up1 s (8 + j) (nI n) k = s k := fun k h => up1_o h
  refine ⟨⟨?_, w.cg c (e _ (by omega)) (e _ (by omega)) (fun k _ _ => e k (by omega)), a.cg c (e _ (by omega)) (e _ (by omega)) (e _ (by omega)) (fun k _ _ => e k (by omega)), d.cg c (e _ (by omega)) (e _ (by omega)) (e _ (by omega)) (fun k _ _ => e k (by omega)), l.cg c (e _ (by omega)) (e _ (by omega)) (e _ (by omega)) (fun k _ _ => e k (by omega)), z.cg (e _ (by omega)) (e _ (by omega)) (fun _ _ => rfl), k.cg (e _ (by omega)) (e _ (by omega)), nn.cg c (e _ (by omega)) (e _ (by omega)) (fun _ _ _ => rfl)⟩, hb⟩
  obtain ⟨a0, a1, a2, a3, a4, a6, a8⟩ := c
  refine ⟨by rw [e _ (by omega)]; exact a0, by rw [e _ (by omega)]; exact a1, by rw [e _ (by omega)]; exact a2, by rw [e _ (by omega)]; exact a3, by rw [e _ (by omega)]; exact a4, by rw [e _ (by omega)]; exact a6, fun p hp => ?_⟩
  by_cases ep : p = j
  · subst ep; exact ⟨n, hn, up1_s⟩
  · rw [e _ (by omega)]; exact a8 p hp
/-- an assignment reverts earlier -/
theorem WG.revert (h : WG B s q) (j n : Nat) (hj : j < cN s 2) (hn : n < cN s (594 + 6 * j + 5)) : WG B (up1 s (594 + 6 * j + 5) (nI n)) q := by
  obtain ⟨⟨c, w, a, d, l, z, k, nn⟩, hb⟩ := h
  have hna := isN_lt (wc_na c) (by decide)
  have hju := isN_lt (wa_u a j hj) (by decide)
  have e : ∀ k, ¬ k = 594 + 6 * j + 5 → up1 s (594 + 6 * j + 5) (nI n) k = s k := fun k h => up1_o h
  have e2 : cN (up1 s (594 + 6 * j + 5) (nI n)) 2 = cN s 2 := cN_cg (e _ (by omega))
  have ev : cN (up1 s (594 + 6 * j + 5) (nI n)) (594 + 6 * j + 5) = n := cN_ up1_s (by omega)
  refine ⟨⟨c.cg (e _ (by omega)) (e _ (by omega)) (e _ (by omega)) (e _ (by omega)) (e _ (by omega)) (e _ (by omega)) (fun p hp => e _ (by omega)), w.cg c (e _ (by omega)) (e _ (by omega)) (fun k _ _ => e k (by omega)), ?_, d.cg c (e _ (by omega)) (e _ (by omega)) (e _ (by omega)) (fun k _ _ => e k (by omega)), l.cg c (e _ (by omega)) (e _ (by omega)) (e _ (by omega)) (fun k _ _ => e k (by omega)), z.cg (e _ (by omega)) (e _ (by omega)) (fun _ _ => rfl), k.cg (e _ (by omega)) (e _ (by omega)), nn.cg c (e _ (by omega)) (e _ (by omega)) (fun _ _ _ => rfl)⟩, hb⟩
  obtain ⟨a1, a2, a3, a4, a5, a6, a7⟩ := a
  refine ⟨fun i hi => ?_, fun i hi => ?_, fun i hi => ?_, fun i hi => ?_, fun i hi => ?_, fun i hi => ?_, fun p w day => ?_⟩
  all_goals try rw [e2] at hi
  · rw [e _ (by omega), cN_cg (e 0 (by omega))]; exact a1 i hi
  · rw [e _ (by omega), cN_cg (e 1 (by omega))]; exact a2 i hi
  · rw [e _ (by omega), cN_cg (e 0 (by omega))]; exact a3 i hi
  · rw [e _ (by omega)]; exact a4 i hi
  · rw [e _ (by omega)]; exact a5 i hi
  · by_cases ei : i = j
    · subst ei; exact ⟨n, by omega, up1_s⟩
    · rw [e _ (by omega)]; exact a6 i hi
  · rw [e2]
    refine Nat.le_trans (sum_le fun i hi => ?_) (a7 p w day)
    rw [cN_cg (e (594 + 6 * i + 0) (by omega)), cN_cg (e (594 + 6 * i + 1) (by omega)), cN_cg (e (594 + 6 * i + 4) (by omega)), cN_cg (e (594 + 6 * i + 3) (by omega))]
    by_cases ei : i = j
    · subst ei
      rw [ev]
      by_cases c1 : cN s (594 + 6 * i + 0) = p ∧ cN s (594 + 6 * i + 1) = w ∧ cN s (594 + 6 * i + 4) ≤ day ∧ day < n
      · rw [if_pos c1, if_pos (by omega)]; exact Nat.le_refl _
      · rw [if_neg c1]; exact Nat.zero_le _
    · rw [cN_cg (e (594 + 6 * i + 5) (by omega))]; exact Nat.le_refl _
end R79
