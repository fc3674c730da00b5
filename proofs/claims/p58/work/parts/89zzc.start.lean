/-! constructors: the state that both begin with -/
def fk_ : List (Nat × Nat) := ck_
def fr_ : List (Nat × Nat × Nat) := cr_
def fw_ : List (Nat × Nat × Int32) := cw_
def Xz0 : TX := (z0s, z0q, (0, fun _ _ => 0, fun _ _ => 0), (0, z0s, z0q), (fun _ => 0, 0), (0, -1, 0), 0, fun _ => 0)
theorem XG_0 : XG 0 Xz0 := ⟨WG_0, fun i h => absurd h (Nat.not_lt_zero _), fun h => absurd h Nat.zero_ne_one⟩
theorem fk_len : fk_.length = 243 := by decide +kernel
theorem fk_x : ∀ q, q ∈ xk_ → q.1 < 243 ∧ fk_.getD q.1 (0, 0) = q.2 := by decide +kernel
theorem fr_x : ∀ q, q ∈ xr_ → q ∈ fr_ := by decide +kernel
theorem fw_x : ∀ q, q ∈ xw_ → q.1 < 243 ∧ wv_ fw_ q.1 0 = nI q.2 := by decide +kernel
theorem fk_o : ∀ j, j < 8 → ∀ a, a < 27 → fk_.getD (27 * (j + 1) + a) (0, 0) = ok_.getD a (0, 0) := by decide +kernel
theorem fr_o : ∀ j, j < 8 → ∀ q, q ∈ orf_ → (27 * (j + 1) + q.1, q.2.1, 27 * (j + 1) + q.2.2) ∈ fr_ := by decide +kernel
theorem fw_o : ∀ j, j < 8 → ∀ q, q ∈ owd_ → q.1 < 27 ∧ wv_ fw_ (27 * (j + 1) + q.1) 0 = nI q.2 := by decide +kernel
theorem fw_no : ∀ j, j < 8 → ∀ a, a < 27 → ¬ a ∈ [7, 9, 11, 13, 15, 17] → ∀ q, q ∈ fw_ → ¬ q.1 = 27 * (j + 1) + a := by decide +kernel
theorem fw_t : ∀ j, j < 8 → ∀ a, a ∈ [13, 15, 17] → a < 27 ∧ wv_ fw_ (27 * (j + 1) + a) 2 = 0 := by decide +kernel
section N89
variable {N z : Nat} {L : Nat → Int64} {m0 m : am_M}
theorem BS.fx (b : BS m0 N m fk_ fr_ fw_ z 3 L) : XS m N := by
  refine ⟨fun q hq => ?_, fun q hq => (b.2.1.2.1 q (fr_x q hq)).2, fun q hq => ?_⟩
  · obtain ⟨h1, h2⟩ := fk_x q hq
    exact (b.k _ (by rw [fk_len]; exact h1)).trans h2
  · obtain ⟨h1, h2⟩ := fw_x q hq
    exact (b.2.1.2.2.1 _ 0 (by rw [fk_len]; exact h1)).trans h2
theorem BS.fo (b : BS m0 N m fk_ fr_ fw_ z 3 L) (j : Nat) (hj : j < 8) : OS m (oa N j) := by
  refine ⟨fun a ha => ?_, fun q hq => ?_, fun q hq => ?_⟩
  · have := (b.k (27 * (j + 1) + a) (by rw [fk_len]; omega)).trans (fk_o j hj a ha)
    rw [← Nat.add_assoc] at this
    exact this
  · have := (b.2.1.2.1 _ (fr_o j hj q hq)).2
    dsimp only at this
    rw [← Nat.add_assoc, ← Nat.add_assoc] at this
    exact this
  · obtain ⟨h1, h2⟩ := fw_o j hj q hq
    have := (b.2.1.2.2.1 (27 * (j + 1) + q.1) 0 (by rw [fk_len]; omega)).trans h2
    rw [← Nat.add_assoc] at this
    exact this
theorem BS.fv (b : BS m0 N m fk_ fr_ fw_ z 3 L) (j : Nat) (hj : j < 8) : OV m (oa N j) z0s z0q := by
  have hi : ∀ a k, a < 27 → ¬ a ∈ [7, 9, 11, 13, 15, 17] → gi_ m (oa N j + a) k = 0 := fun a k ha hn => by
    have := (b.2.1.2.2.1 (27 * (j + 1) + a) k (by rw [fk_len]; omega)).trans (wv_no (fw_no j hj a ha hn))
    rw [← Nat.add_assoc] at this
    exact this
  have ht : ∀ a, a ∈ [13, 15, 17] → gi_ m (oa N j + a) 2 = 0 := fun a ha => by
    obtain ⟨h1, h2⟩ := fw_t j hj a ha
    have := (b.2.1.2.2.1 (27 * (j + 1) + a) 2 (by rw [fk_len]; omega)).trans h2
    rw [← Nat.add_assoc] at this
    exact this
  have hl : ∀ a k, a < 27 → gl_ m (oa N j + a) k = 0 := fun a k ha => by
    have := (b.2.1.2.2.2.1 (27 * (j + 1) + a) k (by rw [fk_len]; omega)).trans (if_neg (by omega))
    rw [← Nat.add_assoc] at this
    exact this
  refine ⟨hi 0 _ (by decide) (by decide), ?_, ?_, ?_, ?_, ?_, ?_, ?_, ?_, ?_, ?_, ?_, ?_, ?_, ?_, ?_, ?_, ?_, ?_, ?_, ?_, ?_, ?_, ?_, ?_, ?_, ?_, ?_⟩
  all_goals intros
  all_goals first
    | exact hi _ _ (by decide) (by decide)
    | exact hl _ _ (by decide)
    | exact ht _ (by decide)
theorem BS.fTC (b : BS m0 N m fk_ fr_ fw_ z 3 L) (hL : ∀ k, k < 21 → L k = qi_ k) : TC m N Xz0 := by
  have hi : ∀ i k, i < 243 → gi_ m (N + i) k = wv_ fw_ i k := fun i k h => b.2.1.2.2.1 i k (by rw [fk_len]; exact h)
  have hr : ∀ i k j, (i, k, j) ∈ fr_ → gr_ m (N + i) k = N + j := fun i k j h => (b.2.1.2.1 _ h).2
  refine ⟨b.fx, fun k hk => ?_, ⟨Nat.zero_le _, fun k h => absurd h (Nat.not_lt_zero _)⟩, (hi 0 1 (by omega)).trans (by decide +kernel), (hi 0 9 (by omega)).trans (by decide +kernel), Nat.zero_le _, (hi 0 11 (by omega)).trans (by decide +kernel), Nat.zero_le _, (hi 2 6 (by omega)).trans (by decide +kernel), (hi 2 7 (by omega)).trans (by decide +kernel), (hi 2 8 (by omega)).trans (by decide +kernel), (hi 23 2 (by omega)).trans (by decide +kernel), Nat.zero_le _, fun k h => absurd h (Nat.not_lt_zero _), b.fo, ⟨fun i => i, ⟨fun i h => h, fun i j _ _ h => h, rfl⟩, hr 0 13 216 (by decide +kernel), hr 0 12 189 (by decide +kernel), fun i h => ?_, b.fv 7 (by omega), fun i h => absurd h (Nat.not_lt_zero _), fun h => absurd h Nat.zero_ne_one⟩⟩
  · rw [b.2.1.2.2.2.1 3 k (by rw [fk_len]; omega), if_pos rfl]
    exact hL k hk
  · have e : ∀ i, i < 5 → (26, i, 27 * (i + 1)) ∈ fr_ := by decide +kernel
    exact hr 26 i _ (e i h)
end N89
